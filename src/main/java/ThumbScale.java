/**
 * Tells from bags that were weighed again whether a stall keeps a thumb on its scale.
 * Every row is made with the object and used again, so no call makes anything.
 */
public final class ThumbScale {
    public static final int BAD = -1, STATE = -2, FULL = -3, NONE = -9;
    public static final long NO = -1000000000000000000L;

    private static final int TEXT_MOST = 400;
    private static final int STALLS_MOST = 6;
    private static final int WAYS_MOST = 6;
    private static final int BAGS_MOST = 30;
    private static final int TRIALS_MOST = 20;
    private static final int LOOKS_MOST = 999;
    private static final int IMAGES = 2;
    private static final int SORTS = 4;
    private static final int ALL_SORTS = 15;
    private static final int LAST_HOUR = 11;
    private static final int WHOLE = 600;
    private static final int LIKELY_BAGS_MOST = 6;
    private static final int ROWS_BAGS_MOST = 18;
    private static final int STEPS_LEAST = -1;
    /** No WAY goes further: 99 grains by a STEP of 1, and one STEP of luck. */
    private static final int STEPS_MOST = 100;

    private final int[] text;
    private int textLength;
    private final Reader reader;
    private final Market market;
    /** A text is read into this one first, so that a FAULT leaves THE MARKET as it was. */
    private final Market draft;
    private final int[] beliefs;
    private final Book book;
    private final Book[] images;
    private final boolean[] kept;
    private final HonestRows honestRows;
    private final Verdict verdict;
    private final int[] sortedOffs;
    private final int[] chanceSteps;
    private final int[] chanceOften;
    private int stepsSold;
    private long traced;

    public ThumbScale() {
        text = new int[TEXT_MOST];
        market = new Market();
        draft = new Market();
        reader = new Reader(text, draft);
        beliefs = new int[WAYS_MOST];
        book = new Book();
        book.lot = 1;
        images = new Book[IMAGES];
        for (int i = 0; i < IMAGES; i++) {
            images[i] = new Book();
        }
        kept = new boolean[IMAGES];
        honestRows = new HonestRows();
        verdict = new Verdict();
        sortedOffs = new int[TRIALS_MOST];
        chanceSteps = new int[STEPS_MOST - STEPS_LEAST + 1];
        chanceOften = new int[STEPS_MOST - STEPS_LEAST + 1];
    }

    // ---- the market

    public int type(long v, int n) {
        if (!within(n, 1, 8)) {
            return BAD;
        }
        if (textLength + n > TEXT_MOST) {
            return FULL;
        }
        for (int i = n - 1; i >= 0; i--) {
            text[textLength] = (int) (v >>> (8 * i)) & 255;
            textLength++;
        }
        return textLength;
    }

    public int clear() {
        int had = textLength;
        textLength = 0;
        return had;
    }

    public int market() {
        int items = reader.read(textLength);
        if (items < 0) {
            return items;
        }
        market.become(draft);
        textLength = 0;
        book.forgetMarket();
        for (int i = 0; i < WAYS_MOST; i++) {
            beliefs[i] = 1;
        }
        for (int i = 0; i < IMAGES; i++) {
            kept[i] = false;
        }
        return items;
    }

    public int stall(int i, int what) {
        if (!isStall(i)) {
            return BAD;
        }
        switch (what) {
            case 0: return market.step[i];
            case 1: return market.dry[i];
            case 2: return market.price[i];
            case 3: return book.bagsOf(i, ALL_SORTS);
            case 4: return book.trialsOf(i);
            default: return BAD;
        }
    }

    public int way(int w, int what) {
        if (!isWay(w)) {
            return BAD;
        }
        switch (what) {
            case 0: return market.shape[w];
            case 1: return market.grains[w];
            case 2: return market.oneIn[w];
            case 3: return market.sorts[w];
            default: return BAD;
        }
    }

    public int often(int way, int stall, int sort, int j) {
        if (!isWay(way) || !isStall(stall) || !isSort(sort)) {
            return BAD;
        }
        return market.howOften(way, stall, sort, j);
    }

    // ---- bags

    public int bag(int stall, int hour, int sort, int told, int found, int minutes) {
        if (!isStall(stall) || !within(hour, 0, LAST_HOUR) || !isSort(sort)
                || !within(told, 1, 999) || !within(found, 0, 999) || !within(minutes, 0, 99)) {
            return BAD;
        }
        if (book.bags >= BAGS_MOST) {
            return FULL;
        }
        int b = book.bags;
        int tooLittle = told - found - market.dry[stall] * minutes / 10;
        book.bagStall[b] = stall;
        book.bagHour[b] = hour;
        book.bagSort[b] = sort;
        book.bagTold[b] = told;
        book.bagShort[b] = tooLittle;
        book.bagSteps[b] = market.nearestSteps(stall, tooLittle);
        book.bags++;
        return b;
    }

    public long about(int b, int what) {
        if (!isBag(b)) {
            return NO;
        }
        switch (what) {
            case 0: return book.bagStall[b];
            case 1: return book.bagHour[b];
            case 2: return book.bagSort[b];
            case 3: return book.bagShort[b];
            case 4: return book.bagSteps[b];
            default: return NO;
        }
    }

    // ---- looks

    public int look(int stall, int from, int to, int sorts, int x, int what) {
        if (!isLook(stall, from, to, sorts) || !within(what, 0, 1)) {
            return BAD;
        }
        return what == 0 ? seen(stall, from, to, sorts, Integer.MIN_VALUE) : seen(stall, from, to, sorts, x);
    }

    public long seldom(int stall, int from, int to, int sorts, int x) {
        if (!isLook(stall, from, to, sorts)) {
            return BAD;
        }
        int n = seen(stall, from, to, sorts, Integer.MIN_VALUE);
        if (n > ROWS_BAGS_MOST) {
            return STATE;
        }
        int k = seen(stall, from, to, sorts, x);
        book.lookRows = honestRows.withAtLeast(k, n, market.tenthsFrom(x));
        book.lookAll = power(10, n);
        book.looks = Math.min(book.looks + 1, LOOKS_MOST);
        return book.lookRows;
    }

    public long counted(int what) {
        if (!within(what, 0, 2)) {
            return BAD;
        }
        if (book.looks <= 0) {
            return STATE;
        }
        switch (what) {
            case 0: return atMost(book.lookRows, book.looks, book.lookAll);
            case 1: return book.lookAll;
            default: return book.looks;
        }
    }

    // ---- ways

    public long likely(int way, int stall, int what) {
        if (!isWay(way) || !isStall(stall) || !isPart(what)) {
            return BAD;
        }
        int n = book.bagsOf(stall, ALL_SORTS);
        if (n > LIKELY_BAGS_MOST) {
            return STATE;
        }
        return inLeastTerms(oftenTogether(way, stall), power(WHOLE, n), what);
    }

    public int belief(int way, int v) {
        if (!isWay(way) || !within(v, 0, 9)) {
            return BAD;
        }
        int was = beliefs[way];
        beliefs[way] = v;
        return was;
    }

    public long odds(int way, int stall, int what) {
        if (!isWay(way) || !isStall(stall) || !isPart(what)) {
            return BAD;
        }
        long whole = allWeights(stall);
        if (whole <= 0) {
            return STATE;
        }
        return inLeastTerms(beliefs[way] * oftenTogether(way, stall), whole, what);
    }

    public int judged(int stall) {
        if (!isStall(stall)) {
            return BAD;
        }
        if (allWeights(stall) <= 0) {
            return STATE;
        }
        int best = 0;
        long greatest = -1;
        for (int w = 0; w < market.ways; w++) {
            long weight = beliefs[w] * oftenTogether(w, stall);
            if (weight > greatest) {
                best = w;
                greatest = weight;
            }
        }
        return best;
    }

    public int apart(int one, int other, int stall, int sort) {
        if (!isWay(one) || !isWay(other) || !isStall(stall) || !isSort(sort)) {
            return BAD;
        }
        return distance(one, other, stall, sort);
    }

    public int follow(int one, int other, int stall) {
        if (!isWay(one) || !isWay(other) || !isStall(stall)) {
            return BAD;
        }
        int best = NONE;
        int greatest = 0;
        for (int sort = 0; sort < SORTS; sort++) {
            int apart = distance(one, other, stall, sort);
            if (apart > greatest) {
                best = sort;
                greatest = apart;
            }
        }
        return best;
    }

    // ---- enough

    public int bar(int k, int v) {
        if (!verdict.mayBe(k, v)) {
            return BAD;
        }
        return verdict.change(k, v);
    }

    public int done(int n, int k) {
        return verdict.knows(n, k) ? verdict.choiceAt(n, k) : BAD;
    }

    public long cost(int n, int k) {
        return verdict.knows(n, k) ? verdict.leastAt(n, k) : NO;
    }

    public int enough(int n) {
        if (n == -1) {
            return verdict.lastToGoOn();
        }
        return verdict.knows(n, 0) ? verdict.leastToAccuse(n) : BAD;
    }

    // ---- what it came to

    public long year(int stall, int sales, int what) {
        if (!isStall(stall) || !within(sales, 0, 9999) || !isPart(what)) {
            return NO;
        }
        int n = book.bagsOf(stall, ALL_SORTS);
        if (n == 0) {
            return NO;
        }
        long lost = (long) book.shortsAboveNone(stall) * market.price[stall] * sales;
        return inLeastTerms(lost, 100L * n, what);
    }

    public long truly(int stall, int what) {
        if (!isStall(stall) || !isPart(what) || trulyGiven(stall) <= 0) {
            return NO;
        }
        return inLeastTerms(paidFor(stall), trulyGiven(stall), what);
    }

    public int cheap() {
        int best = NONE;
        long bestPaid = 0;
        long bestGiven = 1;
        for (int i = 0; i < market.stalls; i++) {
            long paid = paidFor(i);
            long given = trulyGiven(i);
            if (given > 0 && (best == NONE || paid * bestGiven < bestPaid * given)) {
                best = i;
                bestPaid = paid;
                bestGiven = given;
            }
        }
        return best;
    }

    public int favoured(int stall) {
        if (!isStall(stall)) {
            return BAD;
        }
        int best = NONE;
        long bestShorts = 0;
        long bestBags = 1;
        for (int sort = 0; sort < SORTS; sort++) {
            long bags = book.bagsOf(stall, 1 << sort);
            long shorts = book.shortsOf(stall, 1 << sort);
            if (bags > 0 && (best == NONE || shorts * bestBags < bestShorts * bags)) {
                best = sort;
                bestShorts = shorts;
                bestBags = bags;
            }
        }
        return best;
    }

    public long even(int stall, int what) {
        if (!isStall(stall) || !within(what, 0, 2)) {
            return BAD;
        }
        int n = book.bagsOf(stall, ALL_SORTS);
        if (n > ROWS_BAGS_MOST) {
            return STATE;
        }
        int e = book.justBagsOf(stall);
        switch (what) {
            case 0: return honestRows.withAtLeast(e, n, market.just);
            case 1: return power(10, n);
            default: return e;
        }
    }

    // ---- trials, lots

    public int trial(int stall, int day, int lead, int read) {
        if (!isStall(stall) || !within(day, 0, 365) || !within(lead, 1, 999) || !within(read, 0, 999)) {
            return BAD;
        }
        if (book.trials >= TRIALS_MOST) {
            return FULL;
        }
        book.trialStall[book.trials] = stall;
        book.trialDay[book.trials] = day;
        book.trialOff[book.trials] = read - lead;
        book.trials++;
        return book.trialsOf(stall);
    }

    public long middle(int stall) {
        if (!isStall(stall)) {
            return NO;
        }
        int m = sortOffs(stall);
        return m <= 0 ? NO : sortedOffs[(m - 1) / 2];
    }

    public long drift(int stall, int what) {
        if (!isStall(stall) || !isPart(what)) {
            return NO;
        }
        long m = 0, days = 0, offs = 0, products = 0, squares = 0;
        for (int t = 0; t < book.trials; t++) {
            if (book.trialStall[t] == stall) {
                long day = book.trialDay[t];
                long off = book.trialOff[t];
                m++;
                days += day;
                offs += off;
                products += day * off;
                squares += day * day;
            }
        }
        long lower = m * squares - days * days;
        return lower <= 0 ? NO : inLeastTerms(m * products - days * offs, lower, what);
    }

    public int lot(int v) {
        int was = book.lot;
        book.lot = v;
        return was;
    }

    public int sales(int way, int stall, int sort, int n) {
        if (!isWay(way) || !isStall(stall) || !isSort(sort) || !within(n, 1, 200)) {
            return BAD;
        }
        int chances = fillChances(way, stall, sort);
        int tooShort = 0;
        stepsSold = 0;
        for (int i = 0; i < n; i++) {
            int sold = drawSteps(chances);
            stepsSold += sold;
            if (sold >= 1) {
                tooShort++;
            }
        }
        return tooShort;
    }

    public int steps() {
        return stepsSold;
    }

    // ---- kinds, images

    public long score(int kind, int b) {
        if (!isBag(b)) {
            return NO;
        }
        switch (kind) {
            case 0: return asWay(b);
            case 1: return asHonest(b);
            case 2: return asScale(b);
            case 3: return asThumb(b);
            case 4: return asChoose(b);
            case 5: return asRound(b);
            case 6: return asTold(b);
            default: return NO;
        }
    }

    public int keep(int image) {
        if (!within(image, 0, IMAGES - 1)) {
            return BAD;
        }
        images[image].become(book);
        kept[image] = true;
        return book.bags;
    }

    public int back(int image) {
        if (!within(image, 0, IMAGES - 1)) {
            return BAD;
        }
        if (!kept[image]) {
            return STATE;
        }
        book.become(images[image]);
        return book.bags;
    }

    public int count(int what) {
        switch (what) {
            case 0: return market.stalls;
            case 1: return market.ways;
            case 2: return book.bags;
            case 3: return book.trials;
            case 4: return textLength;
            case 5: return market.less;
            case 6: return market.just;
            case 7: return market.more;
            default: return BAD;
        }
    }

    public long trace() {
        return traced;
    }

    // ---- what a number may be

    private static boolean within(int v, int least, int most) {
        return v >= least && v <= most;
    }

    private boolean isStall(int i) {
        return i >= 0 && i < market.stalls;
    }

    private boolean isWay(int w) {
        return w >= 0 && w < market.ways;
    }

    private boolean isBag(int b) {
        return b >= 0 && b < book.bags;
    }

    private static boolean isSort(int sort) {
        return sort >= 0 && sort < SORTS;
    }

    /** Upper or lower number of a fraction. */
    private static boolean isPart(int what) {
        return what == 0 || what == 1;
    }

    private boolean isLook(int stall, int from, int to, int sorts) {
        return (stall == -1 || isStall(stall)) && within(from, 0, LAST_HOUR) && within(to, 0, LAST_HOUR)
                && within(sorts, 0, ALL_SORTS);
    }

    // ---- numbers

    private static long power(long base, int times) {
        long product = 1;
        for (int i = 0; i < times; i++) {
            product *= base;
        }
        return product;
    }

    /** The product, or most if that is less; the product alone could go beyond a long. */
    private static long atMost(long rows, int times, long most) {
        if (times <= 0) {
            return 0;
        }
        return rows > most / times ? most : rows * times;
    }

    private static long commonDivisor(long one, long other) {
        long a = one;
        long b = other;
        for (int turn = 0; turn < 200 && b != 0; turn++) {
            long left = a % b;
            a = b;
            b = left;
        }
        return a;
    }

    private static long inLeastTerms(long upper, long lower, int what) {
        long divisor = commonDivisor(Math.abs(upper), lower);
        if (divisor <= 0) {
            return NO;
        }
        return what == 0 ? upper / divisor : lower / divisor;
    }

    // ---- what the face's calls share

    /** How many BAGS a LOOK sees that are short by x STEPS or more. */
    private int seen(int stall, int from, int to, int sorts, int x) {
        int n = 0;
        for (int b = 0; b < book.bags; b++) {
            boolean here = stall == -1 || book.bagStall[b] == stall;
            boolean then = book.bagHour[b] >= from && book.bagHour[b] <= to;
            boolean asked = (sorts >> book.bagSort[b] & 1) == 1;
            if (here && then && asked && book.bagSteps[b] >= x) {
                n++;
            }
        }
        return n;
    }

    /** HOW OFTEN of each BAG of a STALL, multiplied; 600 to the sixth at most if the BAGS are few enough. */
    private long oftenTogether(int way, int stall) {
        long product = 1;
        for (int b = 0; b < book.bags; b++) {
            if (book.bagStall[b] == stall) {
                product *= market.howOften(way, stall, book.bagSort[b], book.bagSteps[b]);
            }
        }
        return product;
    }

    /** BELIEF times LIKELY of all WAYS added; 0, too, if the STALL has too many BAGS to tell. */
    private long allWeights(int stall) {
        if (book.bagsOf(stall, ALL_SORTS) > LIKELY_BAGS_MOST) {
            return 0;
        }
        long sum = 0;
        for (int w = 0; w < market.ways; w++) {
            sum += beliefs[w] * oftenTogether(w, stall);
        }
        return sum;
    }

    private int distance(int one, int other, int stall, int sort) {
        int sum = 0;
        for (int j = STEPS_LEAST; j <= STEPS_MOST; j++) {
            sum += Math.abs(market.howOften(one, stall, sort, j) - market.howOften(other, stall, sort, j));
        }
        return sum;
    }

    private long paidFor(int stall) {
        return (long) market.price[stall] * book.toldOf(stall);
    }

    private long trulyGiven(int stall) {
        return book.toldOf(stall) - book.shortsOf(stall, ALL_SORTS);
    }

    /** Puts the OFFS of a STALL in order; answers how many they are. */
    private int sortOffs(int stall) {
        int m = 0;
        for (int t = 0; t < book.trials; t++) {
            if (book.trialStall[t] == stall) {
                int at = m;
                while (at > 0 && sortedOffs[at - 1] > book.trialOff[t]) {
                    sortedOffs[at] = sortedOffs[at - 1];
                    at--;
                }
                sortedOffs[at] = book.trialOff[t];
                m++;
            }
        }
        return m;
    }

    /** Only the j that can come are kept, as 200 sales would else go through a hundred each. */
    private int fillChances(int way, int stall, int sort) {
        int chances = 0;
        for (int j = STEPS_LEAST; j <= STEPS_MOST; j++) {
            int times = market.howOften(way, stall, sort, j);
            if (times > 0) {
                chanceSteps[chances] = j;
                chanceOften[chances] = times;
                chances++;
            }
        }
        return chances;
    }

    private int drawSteps(int chances) {
        book.lot = book.lot * 1103515245 + 12345;
        int left = (book.lot >>> 16) % WHOLE;
        for (int i = 0; i < chances; i++) {
            left -= chanceOften[i];
            if (left < 0) {
                return chanceSteps[i];
            }
        }
        return 0;
    }

    // ---- kinds

    private long asWay(int b) {
        traced += 1;
        return book.bagShort[b];
    }

    private long asHonest(int b) {
        traced += 10;
        return asWay(b) / 2;
    }

    private long asScale(int b) {
        traced += 100;
        return asWay(b) - market.step[book.bagStall[b]];
    }

    private long asThumb(int b) {
        traced += 1000;
        return 2 * asWay(b);
    }

    private long asChoose(int b) {
        traced += 10000;
        return asThumb(b) + book.bagSort[b];
    }

    private long asRound(int b) {
        traced += 100000;
        return asWay(b) + book.bagSteps[b];
    }

    private long asTold(int b) {
        traced += 1000000;
        return asRound(b) - book.bagHour[b];
    }

    /** What a text tells: LUCK, STALLS, WAYS. */
    private static final class Market {
        static final int HONEST = 0, SCALE = 1, THUMB = 2, ROUND = 3;

        int less;
        int just;
        int more;
        int stalls;
        final int[] step;
        final int[] dry;
        final int[] price;
        int ways;
        final int[] shape;
        final int[] grains;
        final int[] oneIn;
        final int[] sorts;

        Market() {
            step = new int[STALLS_MOST];
            dry = new int[STALLS_MOST];
            price = new int[STALLS_MOST];
            shape = new int[WAYS_MOST];
            grains = new int[WAYS_MOST];
            oneIn = new int[WAYS_MOST];
            sorts = new int[WAYS_MOST];
            empty();
        }

        void empty() {
            less = 2;
            just = 6;
            more = 2;
            stalls = 0;
            ways = 0;
        }

        void become(Market other) {
            less = other.less;
            just = other.just;
            more = other.more;
            stalls = other.stalls;
            for (int i = 0; i < stalls; i++) {
                step[i] = other.step[i];
                dry[i] = other.dry[i];
                price[i] = other.price[i];
            }
            ways = other.ways;
            for (int w = 0; w < ways; w++) {
                shape[w] = other.shape[w];
                grains[w] = other.grains[w];
                oneIn[w] = other.oneIn[w];
                sorts[w] = other.sorts[w];
            }
        }

        void addStall(int itsStep, int itsDry, int itsPrice) {
            if (stalls < STALLS_MOST) {
                step[stalls] = itsStep;
                dry[stalls] = itsDry;
                price[stalls] = itsPrice;
                stalls++;
            }
        }

        void addWay(int itsShape, int itsGrains, int itsOneIn, int itsSorts) {
            if (ways < WAYS_MOST) {
                shape[ways] = itsShape;
                grains[ways] = itsGrains;
                oneIn[ways] = itsOneIn;
                sorts[ways] = itsSorts;
                ways++;
            }
        }

        int nearestSteps(int stall, int tooLittle) {
            int size = step[stall];
            return size <= 0 ? 0 : Math.floorDiv(2 * tooLittle + size, 2 * size);
        }

        /** Tenths of honest weighings that are short by x STEPS or more. */
        int tenthsFrom(int x) {
            if (x <= -1) {
                return less + just + more;
            }
            if (x == 0) {
                return just + more;
            }
            return x == 1 ? more : 0;
        }

        int howOften(int way, int stall, int sort, int j) {
            switch (shape[way]) {
                case SCALE: return honestly(j - stepsMore(way, stall));
                case THUMB: return byThumb(way, stall, sort, j);
                case ROUND: return rounded(j);
                default: return honestly(j);
            }
        }

        private int honestly(int j) {
            switch (j) {
                case -1: return less * 60;
                case 0: return just * 60;
                case 1: return more * 60;
                default: return 0;
            }
        }

        private int byThumb(int way, int stall, int sort, int j) {
            int in = oneIn[way];
            if ((sorts[way] >> sort & 1) == 0 || in <= 0) {
                return honestly(j);
            }
            // 60 is a multiple of every M, so nothing is lost
            return (honestly(j - stepsMore(way, stall)) + (in - 1) * honestly(j)) / in;
        }

        private int rounded(int j) {
            switch (j) {
                case 0: return (less + just) * 60;
                case 1: return more * 60;
                default: return 0;
            }
        }

        private int stepsMore(int way, int stall) {
            int size = step[stall];
            return size <= 0 ? 0 : (grains[way] + size - 1) / size;
        }
    }

    /** Reads THE TEXT as a MARKET. When something can't stand there, place is where its TOKEN begins. */
    private static final class Reader {
        private static final int END = 0, WORD = 1, NUMBER = 2, STOP = 3, OTHER = 4;

        private final int[] text;
        private final Market into;
        private int length;
        private boolean luckTold;
        private int sign;
        private int place;
        private int after;
        private int value;
        private int taken;

        Reader(int[] text, Market into) {
            this.text = text;
            this.into = into;
        }

        /** How many ITEMS, or -10 less FAULT. */
        int read(int textLength) {
            length = Math.min(textLength, text.length);
            luckTold = false;
            after = 0;
            into.empty();
            next();
            int items = 0;
            // an ITEM has a byte at the least
            while (items < length && sign != END) {
                if (!readItem()) {
                    return -10 - place;
                }
                items++;
            }
            return items;
        }

        private boolean readItem() {
            boolean whole = false;
            if (!luckTold && takeWord("luck")) {
                whole = readLuck();
            } else if (into.stalls < STALLS_MOST && takeWord("stall")) {
                whole = readStall();
            } else if (into.ways < WAYS_MOST && takeWord("way")) {
                whole = takeWord("thumb") ? readThumb() : readOtherWay();
            }
            if (!whole || sign != STOP) {
                return false;
            }
            next();
            return true;
        }

        private boolean readLuck() {
            luckTold = true;
            if (!takeNumber(0, 10)) {
                return false;
            }
            into.less = taken;
            if (!takeNumber(0, 10)) {
                return false;
            }
            into.just = taken;
            int rest = 10 - into.less - into.just;
            if (!takeNumber(rest, rest)) {
                return false;
            }
            into.more = taken;
            return true;
        }

        private boolean readStall() {
            if (!takeNumber(1, 20)) {
                return false;
            }
            int step = taken;
            if (!takeNumber(0, 9)) {
                return false;
            }
            int dry = taken;
            if (!takeNumber(0, 99)) {
                return false;
            }
            into.addStall(step, dry, taken);
            return true;
        }

        private boolean readOtherWay() {
            if (takeWord("honest")) {
                into.addWay(Market.HONEST, 0, 1, ALL_SORTS);
                return true;
            }
            if (takeWord("round")) {
                into.addWay(Market.ROUND, 0, 1, ALL_SORTS);
                return true;
            }
            if (!takeWord("scale") || !takeNumber(1, 99)) {
                return false;
            }
            into.addWay(Market.SCALE, taken, 1, ALL_SORTS);
            return true;
        }

        private boolean readThumb() {
            if (!takeNumber(1, 99)) {
                return false;
            }
            int grains = taken;
            if (!takeWord("in") || !takeNumber(1, 5)) {
                return false;
            }
            int oneIn = taken;
            int sorts = takeWord("to") ? readSorts() : ALL_SORTS;
            if (sorts == 0) {
                return false;
            }
            into.addWay(Market.THUMB, grains, oneIn, sorts);
            return true;
        }

        /** SORTS as bits; 0 if there is none, or one is told again. */
        private int readSorts() {
            int bits = 0;
            for (int i = 0; i <= SORTS; i++) {
                int sort = sortHere();
                if (sort < 0) {
                    return bits;
                }
                if ((bits >> sort & 1) == 1) {
                    return 0;
                }
                bits |= 1 << sort;
                next();
            }
            return bits;
        }

        private int sortHere() {
            if (isWord("old")) {
                return 0;
            }
            if (isWord("young")) {
                return 1;
            }
            if (isWord("friend")) {
                return 2;
            }
            return isWord("stranger") ? 3 : -1;
        }

        private boolean isWord(String word) {
            if (sign != WORD || after - place != word.length()) {
                return false;
            }
            for (int i = 0; i < word.length(); i++) {
                if (text[place + i] != word.charAt(i)) {
                    return false;
                }
            }
            return true;
        }

        private boolean takeWord(String word) {
            if (!isWord(word)) {
                return false;
            }
            next();
            return true;
        }

        private boolean takeNumber(int least, int most) {
            if (sign != NUMBER || value < least || value > most) {
                return false;
            }
            taken = value;
            next();
            return true;
        }

        private void next() {
            place = after;
            while (place < length && text[place] == ' ') {
                place++;
            }
            after = place;
            sign = signAt(place);
            if (sign == WORD || sign == NUMBER) {
                while (after < length && signAt(after) == sign) {
                    after++;
                }
            } else if (sign != END) {
                after++;
            }
            if (sign == NUMBER) {
                valueNumber();
            }
        }

        /** What TOKEN the byte at a place begins or goes on with. */
        private int signAt(int at) {
            if (at < 0 || at >= length) {
                return END;
            }
            int here = text[at];
            if (here >= 'a' && here <= 'z') {
                return WORD;
            }
            if (here >= '0' && here <= '9') {
                return NUMBER;
            }
            return here == ';' ? STOP : OTHER;
        }

        /** A NUMBER of three or more signs is above 99, or has a 0 ahead of others. */
        private void valueNumber() {
            int signs = after - place;
            if (signs == 1) {
                value = text[place] - '0';
            } else if (signs == 2 && text[place] != '0') {
                value = (text[place] - '0') * 10 + text[place + 1] - '0';
            } else {
                sign = OTHER;
            }
        }
    }

    /** Just what an IMAGE keeps: BAGS, TRIALS, LOOKS had with what the latest one told, THE LOT. */
    private static final class Book {
        int bags;
        final int[] bagStall;
        final int[] bagHour;
        final int[] bagSort;
        final int[] bagTold;
        final int[] bagShort;
        final int[] bagSteps;
        int trials;
        final int[] trialStall;
        final int[] trialDay;
        final int[] trialOff;
        int looks;
        long lookRows;
        long lookAll;
        int lot;

        Book() {
            bagStall = new int[BAGS_MOST];
            bagHour = new int[BAGS_MOST];
            bagSort = new int[BAGS_MOST];
            bagTold = new int[BAGS_MOST];
            bagShort = new int[BAGS_MOST];
            bagSteps = new int[BAGS_MOST];
            trialStall = new int[TRIALS_MOST];
            trialDay = new int[TRIALS_MOST];
            trialOff = new int[TRIALS_MOST];
        }

        /** THE LOT goes on through a MARKET read anew. */
        void forgetMarket() {
            bags = 0;
            trials = 0;
            looks = 0;
        }

        void become(Book other) {
            bags = other.bags;
            for (int b = 0; b < bags; b++) {
                bagStall[b] = other.bagStall[b];
                bagHour[b] = other.bagHour[b];
                bagSort[b] = other.bagSort[b];
                bagTold[b] = other.bagTold[b];
                bagShort[b] = other.bagShort[b];
                bagSteps[b] = other.bagSteps[b];
            }
            trials = other.trials;
            for (int t = 0; t < trials; t++) {
                trialStall[t] = other.trialStall[t];
                trialDay[t] = other.trialDay[t];
                trialOff[t] = other.trialOff[t];
            }
            looks = other.looks;
            lookRows = other.lookRows;
            lookAll = other.lookAll;
            lot = other.lot;
        }

        int bagsOf(int stall, int sorts) {
            int n = 0;
            for (int b = 0; b < bags; b++) {
                n += isOf(b, stall, sorts) ? 1 : 0;
            }
            return n;
        }

        int justBagsOf(int stall) {
            int n = 0;
            for (int b = 0; b < bags; b++) {
                n += isOf(b, stall, ALL_SORTS) && bagSteps[b] == 0 ? 1 : 0;
            }
            return n;
        }

        int toldOf(int stall) {
            int sum = 0;
            for (int b = 0; b < bags; b++) {
                sum += isOf(b, stall, ALL_SORTS) ? bagTold[b] : 0;
            }
            return sum;
        }

        int shortsOf(int stall, int sorts) {
            int sum = 0;
            for (int b = 0; b < bags; b++) {
                sum += isOf(b, stall, sorts) ? bagShort[b] : 0;
            }
            return sum;
        }

        int shortsAboveNone(int stall) {
            int sum = 0;
            for (int b = 0; b < bags; b++) {
                sum += isOf(b, stall, ALL_SORTS) ? Math.max(0, bagShort[b]) : 0;
            }
            return sum;
        }

        private boolean isOf(int b, int stall, int sorts) {
            return bagStall[b] == stall && (sorts >> bagSort[b] & 1) == 1;
        }

        int trialsOf(int stall) {
            int m = 0;
            for (int t = 0; t < trials; t++) {
                if (trialStall[t] == stall) {
                    m++;
                }
            }
            return m;
        }
    }

    /** Rows of honest weighings, ten to the n of them, told by how many of a row are as asked. */
    private static final class HonestRows {
        private final long[] rows;

        HonestRows() {
            rows = new long[ROWS_BAGS_MOST + 1];
        }

        /** In how many rows of n weighings k or more are as asked, when that many tenths of them are. */
        long withAtLeast(int k, int n, int tenths) {
            if (n < 0 || n > ROWS_BAGS_MOST || k < 0) {
                return 0;
            }
            fill(n, tenths);
            long sum = 0;
            for (int i = k; i <= n; i++) {
                sum += rows[i];
            }
            return sum;
        }

        private void fill(int n, int tenths) {
            rows[0] = 1;
            for (int i = 1; i <= n; i++) {
                rows[i] = 0;
            }
            for (int weighed = 1; weighed <= n; weighed++) {
                for (int i = weighed; i >= 1; i--) {
                    rows[i] = rows[i] * (10 - tenths) + rows[i - 1] * tenths;
                }
                rows[0] = rows[0] * (10 - tenths);
            }
        }
    }

    /** BARS, and what is DONE behind n BAGS, worked back from the last look whenever a BAR changes. */
    private static final class Verdict {
        private static final int Q = 0, R = 1, H = 2, G = 3, WRONG = 4, FREE = 5, LOOKING = 6, N = 7;
        private static final int BARS = 8;
        private static final int ACCUSE = 0, CLEAR = 1, GO_ON = 2;
        private static final int WIDTH = 9;
        private static final int[] LEAST = {0, 0, 1, 1, 0, 0, 0, 1};
        private static final int[] MOST = {10, 10, 9, 9, 999, 999, 99, 8};
        private static final int[] FIRST = {2, 6, 5, 1, 100, 20, 1, 6};

        private final int[] bars;
        private final long[] leastCost;
        private final int[] choice;

        Verdict() {
            bars = new int[BARS];
            for (int k = 0; k < BARS; k++) {
                bars[k] = FIRST[k];
            }
            leastCost = new long[WIDTH * WIDTH];
            choice = new int[WIDTH * WIDTH];
            workBack();
        }

        boolean mayBe(int k, int v) {
            return k >= 0 && k < BARS && v >= LEAST[k] && v <= MOST[k];
        }

        int change(int k, int v) {
            int was = bars[k];
            bars[k] = v;
            workBack();
            return was;
        }

        boolean knows(int n, int k) {
            return n >= 0 && n <= bars[N] && k >= 0 && k <= n;
        }

        int choiceAt(int n, int k) {
            return choice[n * WIDTH + k];
        }

        long leastAt(int n, int k) {
            return leastCost[n * WIDTH + k];
        }

        int lastToGoOn() {
            for (int n = bars[N]; n >= 0; n--) {
                for (int k = 0; k <= n; k++) {
                    if (choiceAt(n, k) == GO_ON) {
                        return n;
                    }
                }
            }
            return NONE;
        }

        int leastToAccuse(int n) {
            for (int k = 0; k <= n; k++) {
                if (choiceAt(n, k) == ACCUSE) {
                    return k;
                }
            }
            return NONE;
        }

        private void workBack() {
            for (int n = bars[N]; n >= 0; n--) {
                for (int k = 0; k <= n; k++) {
                    decide(n, k);
                }
            }
        }

        private void decide(int n, int k) {
            long unit = power(10, bars[N] - n);
            long honest = weight(bars[H], bars[Q], n, k);
            long other = weight(bars[G], bars[R], n, k);
            int best = ACCUSE;
            long least = bars[WRONG] * honest * unit;
            long toClear = bars[FREE] * other * unit;
            if (toClear < least) {
                best = CLEAR;
                least = toClear;
            }
            if (n < bars[N]) {
                long toGoOn = bars[LOOKING] * (honest + other) * unit + leastAt(n + 1, k + 1) + leastAt(n + 1, k);
                if (toGoOn < least) {
                    best = GO_ON;
                    least = toGoOn;
                }
            }
            choice[n * WIDTH + k] = best;
            leastCost[n * WIDTH + k] = least;
        }

        private static long weight(int howMany, int tenths, int n, int k) {
            return howMany * power(tenths, k) * power(10 - tenths, n - k);
        }
    }
}
