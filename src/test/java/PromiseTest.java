/** For each promise: ordinary calls, the edges that the document names, wrong calls; answers worked by hand. */
public final class PromiseTest {
    private static final long NO = ThumbScale.NO;
    private static final int BAD = ThumbScale.BAD;
    private static final int STATE = ThumbScale.STATE;
    private static final int FULL = ThumbScale.FULL;
    private static final int NONE = ThumbScale.NONE;

    private static int promise;
    private static int checks;
    private static int wrong;

    public static void main(String[] args) {
        aNewObject();
        type();
        clear();
        market();
        faults();
        faultsOfTokens();
        marketReadAnew();
        stall();
        way();
        often();
        bag();
        about();
        look();
        seldom();
        counted();
        likely();
        belief();
        odds();
        judged();
        apart();
        follow();
        bar();
        done();
        cost();
        enough();
        year();
        truly();
        cheap();
        favoured();
        even();
        trial();
        middle();
        drift();
        lot();
        sales();
        steps();
        score();
        keepAndBack();
        count();
        trace();
        refusedChangesNothing();
        System.out.println("PromiseTest: " + checks + " checks, " + wrong + " wrong");
        if (wrong != 0) {
            System.exit(1);
        }
    }

    private static void is(String what, long got, long want) {
        checks++;
        if (got != want) {
            wrong++;
            System.out.println("promise " + promise + ": " + what + " answered " + got + ", due is " + want);
        }
    }

    private static void typeIn(ThumbScale x, String text) {
        for (int i = 0; i < text.length(); i++) {
            x.type(text.charAt(i), 1);
        }
    }

    private static ThumbScale of(String text) {
        ThumbScale x = new ThumbScale();
        typeIn(x, text);
        int items = x.market();
        if (items < 0) {
            is("market of " + text, items, 0);
        }
        return x;
    }

    private static void fault(String text, int place) {
        ThumbScale x = new ThumbScale();
        typeIn(x, text);
        is("market of \"" + text + "\"", x.market(), -10 - place);
        is("bytes behind a fault", x.count(4), text.length());
    }

    private static void items(String text, int items) {
        ThumbScale x = new ThumbScale();
        typeIn(x, text);
        is("market of \"" + text + "\"", x.market(), items);
        is("bytes behind a market", x.count(4), items < 0 ? text.length() : 0);
    }

    private static String times(int n, String s) {
        return s.repeat(n);
    }

    private static void aNewObject() {
        promise = 1;
        ThumbScale x = new ThumbScale();
        int[] counts = {0, 0, 0, 0, 0, 2, 6, 2};
        for (int what = 0; what < 8; what++) {
            is("count " + what, x.count(what), counts[what]);
        }
        int[] bars = {2, 6, 5, 1, 100, 20, 1, 6};
        for (int k = 0; k < 8; k++) {
            is("bar " + k, x.bar(k, bars[k]), bars[k]);
        }
        is("trace", x.trace(), 0);
        is("steps", x.steps(), 0);
        is("counted", x.counted(0), -2);
        is("cheap", x.cheap(), NONE);
        is("back", x.back(0), STATE);
        is("stall", x.stall(0, 0), BAD);
        is("way", x.way(0, 0), BAD);
        is("judged", x.judged(0), BAD);
        is("look at all", x.look(-1, 0, 11, 15, 0, 0), 0);
        is("seldom of none", x.seldom(-1, 0, 11, 15, 0), 1);
        is("lot", x.lot(7), 1);
    }

    private static void type() {
        promise = 2;
        ThumbScale x = new ThumbScale();
        is("n 0", x.type(0, 0), BAD);
        is("n 9", x.type(0, 9), BAD);
        is("n least", x.type(0, Integer.MIN_VALUE), BAD);
        is("n greatest", x.type(0, Integer.MAX_VALUE), BAD);
        is("bytes", x.count(4), 0);
        // "way" from the lowest three bytes, the highest first; what stands above is left out
        is("three", x.type(0x7f00ff0000000000L | 'w' << 16 | 'a' << 8 | 'y', 3), 3);
        is("one", x.type(0xffffffffffffff20L, 1), 4);
        is("eight", x.type(0x686f6e6573743b20L, 8), 12);
        is("market", x.market(), 1);
        for (int i = 0; i < 49; i++) {
            x.type(0x2020202020202020L, 8);
        }
        is("392 and 7", x.type(-1L, 7), 399);
        is("399 and 2", x.type(-1L, 2), FULL);
        is("BAD ahead of FULL", x.type(-1L, 9), BAD);
        is("bytes", x.count(4), 399);
        is("399 and 1", x.type(-1L, 1), 400);
        is("400 and 1", x.type(-1L, 1), FULL);
        is("first byte that begins none", x.market(), -10 - 392);
    }

    private static void clear() {
        promise = 3;
        ThumbScale x = new ThumbScale();
        is("empty", x.clear(), 0);
        typeIn(x, "stall");
        is("five", x.clear(), 5);
        is("again", x.clear(), 0);
        typeIn(x, " 1 1 1;");
        is("the bytes ahead are gone", x.market(), -11);
    }

    private static void market() {
        promise = 4;
        items("", 0);
        items("    ", 0);
        items("luck 0 10 0;", 1);
        items("luck 10 0 0;", 1);
        items("luck 0 0 10 ;", 1);
        items("  stall   20 9 99  ;  way   honest  ; ", 2);
        items("stall 1 0 0;way round;luck 3 3 4;way scale 1;way scale 99;", 5);
        items("way thumb 1 in 1;way thumb 99 in 5;way thumb 5 in 2 to stranger friend young old;", 3);
        items(times(6, "stall 1 0 0;") + times(6, "way honest;") + "luck 1 8 1;", 13);
        // blanks lie between TOKENS where they are needed to tell them apart
        items("stall5 0 20;", 1);
        items("luck3 3 4;way thumb9in2to old;", 2);
        ThumbScale x = of("luck 1 2 7;stall 7 8 9;way thumb 12 in 3 to young friend;");
        is("LESS", x.count(5), 1);
        is("JUST", x.count(6), 2);
        is("MORE", x.count(7), 7);
        is("STEP", x.stall(0, 0), 7);
        is("SORTS", x.way(0, 3), 6);
        items(times(399, " ") + "x", -10 - 399);
        items(times(388, " ") + "luck 1 1 8; ", 1);
    }

    private static void faults() {
        promise = 4;
        fault("luck 11 0 0;", 5);
        fault("luck 0 11 0;", 7);
        fault("luck 5 6 0;", 9);
        fault("luck 10 10 0;", 11);
        fault("luck 3 3 3;", 9);
        fault("luck 3 3 5;", 9);
        fault("luck;", 4);
        fault("luck 3;", 6);
        fault("luck 3 7;", 8);
        fault("luck 3 3 4 0;", 11);
        fault("luck 3 3 4;luck 3 3 4;", 11);
        fault("luck 3 3 4;stall 1 1 1;luck", 23);
        fault("stall 21 0 0;", 6);
        fault("stall 0 0 0;", 6);
        fault("stall 1 10 0;", 8);
        fault("stall 1 9 100;", 10);
        fault("stall;", 5);
        fault("stall 1;", 7);
        fault("stall 1 9;", 9);
        fault("stall 1 9 9 9;", 12);
        fault(times(6, "stall 1 0 0;") + "stall 1 0 0;", 72);
        fault(times(6, "way honest;") + " way honest;", 67);
        fault("way scale 0;", 10);
        fault("way scale;", 9);
        fault("way scale 5 in 2;", 12);
        fault("way thumb;", 9);
        fault("way thumb 5;", 11);
        fault("way thumb 5 in;", 14);
        fault("way thumb 0 in 1;", 10);
        fault("way thumb 5 in 0;", 15);
        fault("way thumb 5 in 6;", 15);
        fault("way thumb 5 to old;", 12);
        fault("way thumb 5 in 2 old;", 17);
        fault("way thumb 5 in 2 to;", 19);
        fault("way thumb 5 in 2 to old young old;", 30);
        fault("way thumb 5 in 2 to old young friend stranger old;", 46);
        fault("way thumb 5 in 2 to old in;", 24);
        fault("way thumb 5 in 2 to 3;", 20);
        fault("way honest 1;", 11);
        fault("way round 5;", 10);
        fault("way way;", 4);
        fault("way ;", 4);
        fault(";", 0);
        fault("luck 3 3 4;;", 11);
        fault("honest;", 0);
        fault("3;", 0);
    }

    private static void faultsOfTokens() {
        promise = 4;
        fault("stall 1 1 1", 11);
        fault("stall 1 1 1  ", 13);
        fault("stall", 5);
        fault("way thumb 5 in 2 to ", 20);
        fault("lucky 1 1 8;", 0);
        fault("luc 1 1 8;", 0);
        fault("buck 1 1 8;", 0);
        fault("lucs 1 1 8;", 0);
        fault("way roundz;", 4);
        fault("way aound;", 4);
        fault("way honestround;", 4);
        fault("Luck 1 1 8;", 0);
        fault("luck 01 1 8;", 5);
        fault("luck 00 1 8;", 5);
        fault("stall 1 1 099;", 10);
        fault("way scale 100;", 10);
        fault("way scale 4294967297;", 10);
        fault("way scale 18446744073709551617;", 10);
        fault("way scale -5;", 10);
        fault("way scale 5.;", 11);
        fault("way scale 5\t;", 11);
        fault("way\u0000honest;", 3);
        fault("way honest\u00ff;", 10);
        fault("way honest,", 10);
        fault("way honest; \u00e1", 12);
        fault("way `honest;", 4);
        fault("way {honest;", 4);
        fault("way scale :;", 10);
        fault("way scale /;", 10);
    }

    private static void marketReadAnew() {
        promise = 4;
        ThumbScale x = of("luck 1 2 7;stall 5 0 20;way honest;way round;");
        x.bag(0, 0, 0, 10, 5, 0);
        x.trial(0, 1, 10, 11);
        x.seldom(0, 0, 11, 15, 1);
        x.belief(1, 9);
        x.bar(0, 3);
        x.lot(55);
        x.score(1, 0);
        x.sales(0, 0, 0, 3);
        int sold = x.steps();
        int lot = x.lot(77);
        is("the lot went on", lot == 55 ? 0 : 1, 1);
        x.keep(0);
        x.keep(1);
        typeIn(x, "way honest;x");
        is("fault", x.market(), -21);
        is("WAYS behind a fault", x.count(1), 2);
        is("STALLS behind a fault", x.count(0), 1);
        is("BAGS behind a fault", x.count(2), 1);
        is("TRIALS behind a fault", x.count(3), 1);
        is("LUCK behind a fault", x.count(7), 7);
        is("LOOKS behind a fault", x.counted(2), 1);
        is("BELIEF behind a fault", x.belief(1, 8), 9);
        is("IMAGE behind a fault", x.back(0), 1);
        is("bytes", x.clear(), 12);
        typeIn(x, "stall 4 0 0;way round;way scale 4;");
        is("anew", x.market(), 3);
        is("STALLS", x.count(0), 1);
        is("STEP", x.stall(0, 0), 4);
        is("WAYS", x.count(1), 2);
        is("BAGS", x.count(2), 0);
        is("TRIALS", x.count(3), 0);
        is("LESS is as at first", x.count(5), 2);
        is("JUST is as at first", x.count(6), 6);
        is("MORE is as at first", x.count(7), 2);
        is("LOOKS", x.counted(2), -2);
        is("BELIEF", x.belief(1, 1), 1);
        is("IMAGE 0", x.back(0), STATE);
        is("IMAGE 1", x.back(1), STATE);
        is("BAR stays", x.bar(0, 3), 3);
        is("THE TRACE stays", x.trace(), 11);
        is("STEPS sold stay", x.steps(), sold);
        is("THE LOT stays", x.lot(1), 77);
        typeIn(x, "luck 1 1 8;");
        is("luck", x.market(), 1);
        typeIn(x, "luck 8 1 1;");
        is("luck again in another text", x.market(), 1);
        is("LESS", x.count(5), 8);
        is("empty market", x.market(), 0);
        is("STALLS", x.count(0), 0);
        is("WAYS", x.count(1), 0);
    }

    private static void stall() {
        promise = 5;
        ThumbScale x = of("stall 20 9 99;stall 1 0 0;");
        int[][] due = {{20, 9, 99, 2, 1}, {1, 0, 0, 1, 2}};
        x.bag(0, 0, 0, 1, 1, 0);
        x.bag(1, 0, 0, 1, 1, 0);
        x.bag(0, 0, 0, 1, 1, 0);
        x.trial(1, 0, 1, 1);
        x.trial(0, 0, 1, 1);
        x.trial(1, 0, 1, 1);
        for (int i = 0; i < 2; i++) {
            for (int what = 0; what < 5; what++) {
                is("stall " + i + " " + what, x.stall(i, what), due[i][what]);
            }
        }
        is("what 5", x.stall(0, 5), BAD);
        is("what -1", x.stall(0, -1), BAD);
        is("stall 2", x.stall(2, 0), BAD);
        is("stall -1", x.stall(-1, 0), BAD);
        is("stall far", x.stall(Integer.MIN_VALUE, 3), BAD);
    }

    private static void way() {
        promise = 6;
        ThumbScale x = of("way honest;way scale 7;way thumb 8 in 3;way thumb 9 in 5 to friend old;way round;");
        int[][] due = {{0, 0, 1, 15}, {1, 7, 1, 15}, {2, 8, 3, 15}, {2, 9, 5, 5}, {3, 0, 1, 15}};
        for (int w = 0; w < 5; w++) {
            for (int what = 0; what < 4; what++) {
                is("way " + w + " " + what, x.way(w, what), due[w][what]);
            }
        }
        is("what 4", x.way(0, 4), BAD);
        is("what -1", x.way(0, -1), BAD);
        is("way 5", x.way(5, 0), BAD);
        is("way -1", x.way(-1, 0), BAD);
    }

    private static void often() {
        promise = 7;
        ThumbScale x = of("luck 1 4 5;stall 5 0 0;way honest;way scale 10;way scale 11;way thumb 5 in 4;"
                + "way thumb 1 in 2 to young stranger;way round;");
        // j from -2 to 5
        int[][] due = {
            {0, 60, 240, 300, 0, 0, 0, 0},
            {0, 0, 0, 60, 240, 300, 0, 0},
            {0, 0, 0, 0, 60, 240, 300, 0},
            {0, 45, 195, 285, 75, 0, 0, 0},
            {0, 30, 150, 270, 150, 0, 0, 0},
            {0, 0, 300, 300, 0, 0, 0, 0}};
        for (int w = 0; w < 6; w++) {
            for (int j = -2; j <= 5; j++) {
                is("often " + w + " " + j, x.often(w, 0, 1, j), due[w][j + 2]);
            }
        }
        for (int j = -2; j <= 5; j++) {
            is("to an other sort " + j, x.often(4, 0, 0, j), due[0][j + 2]);
            is("to a stranger " + j, x.often(4, 0, 3, j), due[4][j + 2]);
        }
        for (int w = 0; w < 6; w++) {
            is("greatest j", x.often(w, 0, 1, Integer.MAX_VALUE), 0);
            is("least j", x.often(w, 0, 1, Integer.MIN_VALUE), 0);
        }
        is("way 6", x.often(6, 0, 0, 0), BAD);
        is("way -1", x.often(-1, 0, 0, 0), BAD);
        is("stall 1", x.often(0, 1, 0, 0), BAD);
        is("stall -1", x.often(0, -1, 0, 0), BAD);
        is("sort 4", x.often(0, 0, 4, 0), BAD);
        is("sort -1", x.often(0, 0, -1, 0), BAD);
        ThumbScale far = of("luck 0 0 10;stall 1 0 0;way scale 99;way thumb 99 in 1;");
        is("99 and one", far.often(0, 0, 0, 100), 600);
        is("a thumb always", far.often(1, 0, 0, 100), 600);
        is("a thumb always, honest", far.often(1, 0, 0, 1), 0);
    }

    private static void bag() {
        promise = 8;
        ThumbScale x = of("stall 1 0 0;stall 1 0 0;");
        is("first", x.bag(0, 0, 0, 1, 0, 0), 0);
        is("second", x.bag(1, 11, 3, 999, 999, 99), 1);
        is("stall 2", x.bag(2, 0, 0, 1, 0, 0), BAD);
        is("stall -1", x.bag(-1, 0, 0, 1, 0, 0), BAD);
        is("hour 12", x.bag(0, 12, 0, 1, 0, 0), BAD);
        is("hour -1", x.bag(0, -1, 0, 1, 0, 0), BAD);
        is("sort 4", x.bag(0, 0, 4, 1, 0, 0), BAD);
        is("sort -1", x.bag(0, 0, -1, 1, 0, 0), BAD);
        is("told 0", x.bag(0, 0, 0, 0, 0, 0), BAD);
        is("told 1000", x.bag(0, 0, 0, 1000, 0, 0), BAD);
        is("found -1", x.bag(0, 0, 0, 1, -1, 0), BAD);
        is("found 1000", x.bag(0, 0, 0, 1, 1000, 0), BAD);
        is("minutes -1", x.bag(0, 0, 0, 1, 0, -1), BAD);
        is("minutes 100", x.bag(0, 0, 0, 1, 0, 100), BAD);
        for (int b = 2; b < 30; b++) {
            is("bag " + b, x.bag(b & 1, 0, 0, 1, 0, 0), b);
        }
        is("the 31st", x.bag(0, 0, 0, 1, 0, 0), FULL);
        is("BAD ahead of FULL", x.bag(0, 12, 0, 1, 0, 0), BAD);
        is("BAGS", x.count(2), 30);
    }

    private static void about() {
        promise = 9;
        ThumbScale x = of("stall 4 3 0;stall 10 9 0;");
        // told, found, minutes, SHORT, STEPS at the first stall
        int[][] rows = {
            {100, 100, 0, 0, 0}, {100, 98, 0, 2, 1}, {100, 99, 0, 1, 0}, {100, 94, 0, 6, 2}, {100, 95, 0, 5, 1},
            {98, 100, 0, -2, 0}, {97, 100, 0, -3, -1}, {94, 100, 0, -6, -1}, {93, 100, 0, -7, -2},
            {100, 90, 3, 10, 3}, {100, 90, 4, 9, 2}, {100, 90, 6, 9, 2}, {100, 90, 7, 8, 2},
            {1, 999, 99, -1027, -257}, {999, 0, 0, 999, 250}};
        for (int b = 0; b < rows.length; b++) {
            x.bag(0, b % 12, b % 4, rows[b][0], rows[b][1], rows[b][2]);
            is("STALL " + b, x.about(b, 0), 0);
            is("HOUR " + b, x.about(b, 1), b % 12);
            is("SORT " + b, x.about(b, 2), b % 4);
            is("SHORT " + b, x.about(b, 3), rows[b][3]);
            is("STEPS " + b, x.about(b, 4), rows[b][4]);
        }
        int b = x.bag(1, 7, 2, 100, 50, 10);
        is("STALL", x.about(b, 0), 1);
        is("SHORT", x.about(b, 3), 41);
        is("STEPS", x.about(b, 4), 4);
        is("what 5", x.about(0, 5), NO);
        is("what -1", x.about(0, -1), NO);
        is("bag ahead", x.about(b + 1, 0), NO);
        is("bag -1", x.about(-1, 0), NO);
        is("bag far", x.about(Integer.MAX_VALUE, 0), NO);
    }

    /** BAGS at two STALLS, of STEPS 2, 0, 1, -1, 3 and 1. */
    private static ThumbScale lookedAt() {
        ThumbScale x = of("stall 5 0 20;stall 10 0 7;way honest;");
        x.bag(0, 0, 0, 100, 90, 0);
        x.bag(0, 3, 1, 100, 100, 0);
        x.bag(0, 3, 2, 100, 95, 0);
        x.bag(0, 11, 3, 100, 105, 0);
        x.bag(1, 3, 0, 100, 70, 0);
        x.bag(1, 5, 3, 100, 90, 0);
        return x;
    }

    private static void look() {
        promise = 10;
        ThumbScale x = lookedAt();
        is("all", x.look(-1, 0, 11, 15, 1, 0), 6);
        is("all short by 1", x.look(-1, 0, 11, 15, 1, 1), 4);
        is("all short by 2", x.look(-1, 0, 11, 15, 2, 1), 2);
        is("all short by 3", x.look(-1, 0, 11, 15, 3, 1), 1);
        is("all short by 4", x.look(-1, 0, 11, 15, 4, 1), 0);
        is("all short by 0", x.look(-1, 0, 11, 15, 0, 1), 5);
        is("all short by -1", x.look(-1, 0, 11, 15, -1, 1), 6);
        is("least x", x.look(-1, 0, 11, 15, Integer.MIN_VALUE, 1), 6);
        is("greatest x", x.look(-1, 0, 11, 15, Integer.MAX_VALUE, 1), 0);
        is("stall 0", x.look(0, 0, 11, 15, 1, 0), 4);
        is("stall 1", x.look(1, 0, 11, 15, 1, 0), 2);
        is("hour 3", x.look(-1, 3, 3, 15, 1, 0), 3);
        is("hours 3 .. 5", x.look(-1, 3, 5, 15, 1, 0), 4);
        is("hours 5 .. 3", x.look(-1, 5, 3, 15, 1, 0), 0);
        is("hours 0 .. 2", x.look(-1, 0, 2, 15, 1, 0), 1);
        is("hours 11", x.look(-1, 11, 11, 15, 1, 0), 1);
        is("hours 0", x.look(-1, 0, 0, 15, 1, 0), 1);
        is("old", x.look(-1, 0, 11, 1, 1, 0), 2);
        is("young", x.look(-1, 0, 11, 2, 1, 0), 1);
        is("friend, stranger", x.look(-1, 0, 11, 12, 1, 0), 3);
        is("no sorts", x.look(-1, 0, 11, 0, 1, 0), 0);
        is("stall 2", x.look(2, 0, 11, 15, 1, 0), BAD);
        is("stall -2", x.look(-2, 0, 11, 15, 1, 0), BAD);
        is("from -1", x.look(0, -1, 11, 15, 1, 0), BAD);
        is("from 12", x.look(0, 12, 11, 15, 1, 0), BAD);
        is("to 12", x.look(0, 0, 12, 15, 1, 0), BAD);
        is("to -1", x.look(0, 0, -1, 15, 1, 0), BAD);
        is("sorts 16", x.look(0, 0, 11, 16, 1, 0), BAD);
        is("sorts -1", x.look(0, 0, 11, -1, 1, 0), BAD);
        is("what 2", x.look(0, 0, 11, 15, 1, 2), BAD);
        is("what -1", x.look(0, 0, 11, 15, 1, -1), BAD);
        is("it is not counted", x.counted(2), -2);
    }

    private static void seldom() {
        promise = 11;
        ThumbScale x = lookedAt();
        // 4 of 6, two tenths: 15 * 16 * 64 + 6 * 32 * 8 + 64
        is("all, 1", x.seldom(-1, 0, 11, 15, 1), 15 * 16 * 64 + 6 * 32 * 8 + 64);
        // 3 of 4, eight tenths
        is("stall 0, 0", x.seldom(0, 0, 11, 15, 0), 4 * 512 * 2 + 4096);
        is("stall 0, 2: one, but none can be", x.seldom(0, 0, 11, 15, 2), 0);
        is("stall 0, 3: none is", x.seldom(0, 0, 11, 15, 3), 10000);
        is("stall 0, -1", x.seldom(0, 0, 11, 15, -1), 10000);
        is("least x", x.seldom(0, 0, 11, 15, Integer.MIN_VALUE), 10000);
        is("no bags", x.seldom(0, 4, 3, 15, 1), 1);
        is("looks", x.counted(2), 7);
        is("stall 2", x.seldom(2, 0, 11, 15, 1), -1);
        is("stall -2", x.seldom(-2, 0, 11, 15, 1), -1);
        is("from 12", x.seldom(0, 12, 11, 15, 1), -1);
        is("to -1", x.seldom(0, 0, -1, 15, 1), -1);
        is("sorts 16", x.seldom(0, 0, 11, 16, 1), -1);
        is("looks", x.counted(2), 7);
        ThumbScale y = of("luck 0 0 10;stall 1 0 0;");
        for (int b = 0; b < 18; b++) {
            y.bag(0, 0, b == 0 ? 1 : 0, 2, 1, 0);
        }
        is("18", y.seldom(0, 0, 11, 15, 1), 1000000000000000000L);
        y.bag(0, 0, 0, 2, 1, 0);
        is("19", y.seldom(0, 0, 11, 15, 1), -2);
        is("BAD ahead of STATE", y.seldom(0, 0, 11, 99, 1), -1);
        is("18 of 19", y.seldom(-1, 0, 11, 1, 2), 1000000000000000000L);
        is("looks", y.counted(2), 2);
        ThumbScale z = of("luck 1 4 5;stall 1 0 0;");
        for (int b = 0; b < 18; b++) {
            z.bag(0, 0, 0, 2, 1, 0);
        }
        is("18, five tenths", z.seldom(0, 0, 11, 15, 1), 3814697265625L);
        is("18, nine tenths", z.seldom(0, 0, 11, 15, 0), 150094635296999121L);
    }

    private static void counted() {
        promise = 12;
        ThumbScale x = lookedAt();
        is("none", x.counted(0), -2);
        is("none, ALL", x.counted(1), -2);
        is("none, LOOKS", x.counted(2), -2);
        is("BAD ahead of none", x.counted(3), -1);
        is("-1", x.counted(-1), -1);
        x.seldom(1, 0, 11, 15, 1);
        is("4 of 100", x.counted(0), 4);
        is("ALL", x.counted(1), 100);
        is("LOOKS", x.counted(2), 1);
        x.seldom(1, 0, 11, 15, 1);
        is("twice", x.counted(0), 8);
        x.bag(1, 0, 0, 1, 1, 0);
        is("the latest stays as it was", x.counted(1), 100);
        x.seldom(0, 0, 11, 15, 3);
        is("ALL at most", x.counted(0), 10000);
        is("ALL", x.counted(1), 10000);
        is("LOOKS", x.counted(2), 3);
        x.seldom(9, 0, 11, 15, 3);
        is("a refused one is not counted", x.counted(2), 3);
        for (int i = 0; i < 23; i++) {
            x.seldom(1, 0, 5, 8, 1);
        }
        // 2 of 10, 26 times
        is("2 of 10", x.counted(0), 10);
        is("LOOKS", x.counted(2), 26);
        ThumbScale three = of("luck 1 6 3;stall 1 0 0;");
        three.bag(0, 0, 0, 2, 1, 0);
        int[] due = {3, 6, 9, 10, 10};
        for (int i = 0; i < 5; i++) {
            three.seldom(0, 0, 11, 15, 1);
            is("3 of 10", three.counted(0), due[i]);
        }
        ThumbScale y = of("luck 0 0 10;stall 1 0 0;");
        for (int b = 0; b < 18; b++) {
            y.bag(0, 0, 0, 2, 1, 0);
        }
        for (int i = 0; i < 30; i++) {
            y.seldom(0, 0, 11, 15, 1);
        }
        is("no wrap", y.counted(0), 1000000000000000000L);
    }

    private static void likely() {
        promise = 13;
        ThumbScale x = of("stall 5 0 0;stall 5 0 0;way honest;way thumb 5 in 2 to old;way round;way scale 10;");
        is("no bags", x.likely(0, 0, 0), 1);
        is("no bags", x.likely(0, 0, 1), 1);
        x.bag(0, 0, 0, 10, 5, 0);
        is("1 STEP, honest", x.likely(0, 0, 0), 1);
        is("1 STEP, honest", x.likely(0, 0, 1), 5);
        is("1 STEP, thumb", x.likely(1, 0, 0), 2);
        is("1 STEP, thumb", x.likely(1, 0, 1), 5);
        is("1 STEP, scale", x.likely(3, 0, 1), 5);
        x.bag(0, 0, 3, 5, 5, 0);
        is("and 0, honest", x.likely(0, 0, 0), 3);
        is("and 0, honest", x.likely(0, 0, 1), 25);
        is("to a stranger, thumb", x.likely(1, 0, 0), 6);
        is("to a stranger, thumb", x.likely(1, 0, 1), 25);
        is("round", x.likely(2, 0, 0), 4);
        is("scale: none", x.likely(3, 0, 0), 0);
        is("scale: by 1", x.likely(3, 0, 1), 1);
        is("the other stall", x.likely(3, 1, 0), 1);
        for (int b = 0; b < 4; b++) {
            x.bag(0, 0, 3, 10, 5, 0);
        }
        is("six", x.likely(0, 0, 0), 3);
        is("six", x.likely(0, 0, 1), 15625);
        x.bag(0, 0, 3, 10, 5, 0);
        is("seven", x.likely(0, 0, 0), -2);
        is("BAD ahead of STATE", x.likely(4, 0, 0), -1);
        is("way -1", x.likely(-1, 0, 0), -1);
        is("stall 2", x.likely(0, 2, 0), -1);
        is("what 2", x.likely(0, 0, 2), -1);
        is("what -1", x.likely(0, 0, -1), -1);
        is("the other stall", x.likely(0, 1, 1), 1);
        ThumbScale y = of("luck 7 2 1;stall 1 0 0;way thumb 9 in 5;");
        for (int b = 0; b < 6; b++) {
            y.bag(0, 0, 0, 11, 1, 0);
        }
        is("12 of 600, six times", y.likely(0, 0, 0), 1);
        is("12 of 600, six times", y.likely(0, 0, 1), 15625000000L);
    }

    private static void belief() {
        promise = 14;
        ThumbScale x = of("way honest;way round;");
        is("first", x.belief(0, 9), 1);
        is("then", x.belief(0, 0), 9);
        is("then", x.belief(0, 3), 0);
        is("10", x.belief(0, 10), BAD);
        is("-1", x.belief(0, -1), BAD);
        is("way 2", x.belief(2, 1), BAD);
        is("way -1", x.belief(-1, 1), BAD);
        is("as it was", x.belief(0, 1), 3);
        is("the other", x.belief(1, 1), 1);
    }

    private static void odds() {
        promise = 15;
        ThumbScale x = of("stall 5 0 0;way honest;way thumb 5 in 2;way round;way scale 10;");
        is("no bags", x.odds(2, 0, 0), 1);
        is("no bags", x.odds(2, 0, 1), 4);
        x.bag(0, 0, 0, 10, 5, 0);
        // 120, 240, 120, 120
        is("thumb", x.odds(1, 0, 0), 2);
        is("thumb", x.odds(1, 0, 1), 5);
        x.belief(1, 3);
        is("thumb believed", x.odds(1, 0, 0), 2);
        is("thumb believed", x.odds(1, 0, 1), 3);
        is("honest", x.odds(0, 0, 0), 1);
        is("honest", x.odds(0, 0, 1), 9);
        x.belief(1, 0);
        is("thumb not believed", x.odds(1, 0, 0), 0);
        is("thumb not believed", x.odds(1, 0, 1), 1);
        is("way 4", x.odds(4, 0, 0), -1);
        is("way -1", x.odds(-1, 0, 0), -1);
        is("stall 1", x.odds(0, 1, 0), -1);
        is("what 2", x.odds(0, 0, 2), -1);
        x.belief(0, 0);
        x.belief(2, 0);
        x.belief(3, 0);
        is("all 0", x.odds(0, 0, 0), -2);
        x.belief(3, 9);
        is("one alone", x.odds(3, 0, 1), 1);
        for (int b = 0; b < 5; b++) {
            x.bag(0, 0, 0, 10, 5, 0);
        }
        is("six", x.odds(3, 0, 0), 1);
        x.bag(0, 0, 0, 10, 5, 0);
        is("seven", x.odds(3, 0, 0), -2);
        is("BAD ahead of STATE", x.odds(3, 0, 3), -1);
        ThumbScale y = of("luck 0 0 10;stall 1 0 0;" + times(6, "way honest;"));
        for (int b = 0; b < 6; b++) {
            y.bag(0, 0, 0, 2, 1, 0);
            y.belief(b, 9);
        }
        is("no wrap", y.odds(5, 0, 1), 6);
        is("six of six", y.judged(0), 0);
        ThumbScale one = of("stall 1 0 0;way scale 5;");
        is("one way, no bags", one.odds(0, 0, 0), 1);
        is("one way, no bags", one.odds(0, 0, 1), 1);
        is("one way, no bags", one.judged(0), 0);
    }

    private static void judged() {
        promise = 16;
        ThumbScale none = of("stall 1 0 0;");
        is("no ways", none.judged(0), STATE);
        is("BAD ahead of STATE", none.judged(1), BAD);
        ThumbScale x = of("stall 5 0 0;way honest;way thumb 5 in 2;way round;way scale 10;");
        is("no bags: the first", x.judged(0), 0);
        x.belief(0, 0);
        is("the first believed", x.judged(0), 1);
        x.belief(3, 2);
        is("the most believed", x.judged(0), 3);
        x.bag(0, 0, 0, 10, 5, 0);
        is("of equal ones the first", x.judged(0), 1);
        x.bag(0, 0, 0, 5, 5, 0);
        is("thumb 240 * 240, round 120 * 480", x.judged(0), 1);
        x.belief(1, 0);
        is("round", x.judged(0), 2);
        x.belief(2, 0);
        is("all 0", x.judged(0), STATE);
        is("stall 1", x.judged(1), BAD);
        is("stall -1", x.judged(-1), BAD);
        x.belief(0, 1);
        for (int b = 0; b < 4; b++) {
            x.bag(0, 0, 0, 5, 5, 0);
        }
        is("six", x.judged(0), 0);
        x.bag(0, 0, 0, 5, 5, 0);
        is("seven", x.judged(0), STATE);
    }

    private static void apart() {
        promise = 17;
        ThumbScale x = of("luck 1 4 5;stall 5 0 0;stall 1 0 0;way honest;way scale 5;way thumb 99 in 2 to young;way round;"
                + "way scale 99;");
        is("itself", x.apart(2, 2, 0, 1), 0);
        is("honest, scale", x.apart(0, 1, 0, 0), 60 + 180 + 60 + 300);
        is("scale, honest", x.apart(1, 0, 0, 0), 600);
        is("honest, thumb to old", x.apart(0, 2, 0, 0), 0);
        is("honest, thumb to young", x.apart(0, 2, 0, 1), 600);
        is("honest, round", x.apart(0, 3, 0, 0), 120);
        is("99 by 1", x.apart(0, 4, 1, 0), 1200);
        is("99 by 1, thumb", x.apart(4, 2, 1, 1), 600);
        is("way 5", x.apart(5, 0, 0, 0), BAD);
        is("other 5", x.apart(0, 5, 0, 0), BAD);
        is("way -1", x.apart(-1, 0, 0, 0), BAD);
        is("other -1", x.apart(0, -1, 0, 0), BAD);
        is("stall 2", x.apart(0, 0, 2, 0), BAD);
        is("sort 4", x.apart(0, 0, 0, 4), BAD);
        is("sort -1", x.apart(0, 0, 0, -1), BAD);
    }

    private static void follow() {
        promise = 18;
        ThumbScale x = of("stall 5 0 0;way honest;way thumb 5 in 2 to friend stranger;way thumb 5 in 2;"
                + "way thumb 15 in 1 to stranger;way scale 5;");
        is("itself", x.follow(1, 1, 0), NONE);
        is("honest, thumb to friend", x.follow(0, 1, 0), 2);
        is("thumb to friend, to all", x.follow(1, 2, 0), 0);
        is("the greatest, not the first", x.follow(1, 3, 0), 3);
        is("by all the same", x.follow(0, 4, 0), 0);
        is("way 5", x.follow(5, 0, 0), BAD);
        is("other 5", x.follow(0, 5, 0), BAD);
        is("stall 1", x.follow(0, 1, 1), BAD);
        is("stall -1", x.follow(0, 1, -1), BAD);
    }

    private static void bar() {
        promise = 19;
        ThumbScale x = new ThumbScale();
        int[] least = {0, 0, 1, 1, 0, 0, 0, 1};
        int[] most = {10, 10, 9, 9, 999, 999, 99, 8};
        int[] first = {2, 6, 5, 1, 100, 20, 1, 6};
        for (int k = 0; k < 8; k++) {
            is("too little " + k, x.bar(k, least[k] - 1), BAD);
            is("too much " + k, x.bar(k, most[k] + 1), BAD);
            is("most " + k, x.bar(k, most[k]), first[k]);
            is("least " + k, x.bar(k, least[k]), most[k]);
            is("back " + k, x.bar(k, first[k]), least[k]);
        }
        is("bar 8", x.bar(8, 1), BAD);
        is("bar -1", x.bar(-1, 1), BAD);
        is("far", x.bar(Integer.MIN_VALUE, 1), BAD);
    }

    private static void done() {
        promise = 20;
        ThumbScale x = new ThumbScale();
        // weights behind 6, k short: 5 * 2^k * 8^(6-k) and 6^k * 4^(6-k)
        is("6, 4: 100 * 5 * 16 * 64, 20 * 1296 * 16", x.done(6, 4), 1);
        is("6, 5: 100 * 5 * 32 * 8, 20 * 7776 * 4", x.done(6, 5), 0);
        is("6, 0", x.done(6, 0), 1);
        is("n 7", x.done(7, 0), BAD);
        is("n -1", x.done(-1, 0), BAD);
        is("k above n", x.done(3, 4), BAD);
        is("k -1", x.done(3, -1), BAD);
        is("far", x.done(Integer.MAX_VALUE, Integer.MAX_VALUE), BAD);
        x.bar(7, 1);
        // behind 1, short: 100 * 10, 20 * 6; not: 100 * 40, 20 * 4
        is("1, 1", x.done(1, 1), 1);
        is("N is 1", x.done(2, 0), BAD);
        x.bar(4, 0);
        x.bar(5, 0);
        is("ACCUSE ahead of CLEAR", x.done(1, 1), 0);
        x.bar(6, 0);
        is("ACCUSE ahead of all", x.done(0, 0), 0);
        x.bar(4, 9);
        is("CLEAR ahead of GO ON", x.done(0, 0), 1);
        // a BAG tells all: accuse if it is short
        x.bar(0, 0);
        x.bar(1, 10);
        x.bar(5, 9);
        is("GO ON costs nothing", x.done(0, 0), 2);
        is("1, 1", x.done(1, 1), 0);
        is("1, 0", x.done(1, 0), 1);
        // to look at one costs 6 * 10, to clear 9 * 10
        x.bar(6, 1);
        is("GO ON costs 60, CLEAR 90", x.done(0, 0), 2);
        x.bar(5, 6);
        is("both 60: CLEAR", x.done(0, 0), 1);
        x.bar(3, 5);
        x.bar(5, 2);
        x.bar(4, 2);
        // ACCUSE 2 * 5 * 10, CLEAR 2 * 5 * 10, GO ON 10 * 10
        is("all 100: ACCUSE", x.done(0, 0), 0);
    }

    private static void cost() {
        promise = 21;
        ThumbScale x = new ThumbScale();
        x.bar(7, 1);
        is("1, 1: CLEAR 20 * 6", x.cost(1, 1), 120);
        is("1, 0: CLEAR 20 * 4", x.cost(1, 0), 80);
        is("0, 0: CLEAR 20 * 10", x.cost(0, 0), 200);
        x.bar(5, 999);
        is("1, 1: ACCUSE 100 * 5 * 2", x.cost(1, 1), 1000);
        is("1, 0: CLEAR 999 * 4", x.cost(1, 0), 3996);
        is("0, 0: ACCUSE 5000, GO ON 60 and 4996", x.cost(0, 0), 5000);
        x.bar(6, 0);
        is("0, 0: GO ON 4996", x.cost(0, 0), 4996);
        is("GO ON", x.done(0, 0), 2);
        is("n 2", x.cost(2, 0), NO);
        is("n -1", x.cost(-1, 0), NO);
        is("k 2", x.cost(1, 2), NO);
        is("k -1", x.cost(1, -1), NO);
        x.bar(7, 8);
        x.bar(2, 9);
        x.bar(3, 9);
        x.bar(4, 999);
        x.bar(0, 5);
        x.bar(1, 5);
        x.bar(6, 99);
        is("the dearest", x.cost(0, 0), 999L * 9 * 100000000);
    }

    private static void enough() {
        promise = 22;
        ThumbScale x = new ThumbScale();
        x.bar(7, 1);
        is("LAST: none", x.enough(-1), NONE);
        is("SURE: none", x.enough(1), NONE);
        x.bar(5, 999);
        x.bar(6, 0);
        is("LAST", x.enough(-1), 0);
        is("SURE at 1", x.enough(1), 1);
        is("SURE at 0", x.enough(0), NONE);
        x.bar(4, 0);
        is("SURE at 0", x.enough(0), 0);
        is("SURE at 1", x.enough(1), 0);
        is("LAST", x.enough(-1), NONE);
        is("n 2", x.enough(2), BAD);
        is("n -2", x.enough(-2), BAD);
        ThumbScale y = new ThumbScale();
        is("SURE at 6", y.enough(6), 5);
        is("LAST", y.enough(-1), 5);
        is("n 7", y.enough(7), BAD);
        // a single BAG tells all, and a second nothing
        y.bar(0, 0);
        y.bar(1, 10);
        y.bar(6, 0);
        is("SURE at 6", y.enough(6), 1);
        is("SURE at 1", y.enough(1), 1);
        is("LAST", y.enough(-1), 0);
    }

    private static void year() {
        promise = 23;
        ThumbScale x = of("stall 5 0 30;stall 5 0 0;stall 5 0 7;");
        is("no bags", x.year(0, 10, 0), NO);
        x.bag(0, 0, 0, 10, 5, 0);
        x.bag(0, 0, 0, 10, 8, 0);
        x.bag(0, 0, 0, 10, 99, 0);
        // 7 * 30 * 10 by 300
        is("upper", x.year(0, 10, 0), 7);
        is("lower", x.year(0, 10, 1), 1);
        is("9999: 7 * 30 * 9999 by 300", x.year(0, 9999, 0), 69993);
        is("9999", x.year(0, 9999, 1), 10);
        is("no sales", x.year(0, 0, 0), 0);
        is("no sales", x.year(0, 0, 1), 1);
        x.bag(1, 0, 0, 10, 5, 0);
        is("for nothing", x.year(1, 9999, 0), 0);
        x.bag(2, 0, 0, 10, 10, 0);
        is("not short", x.year(2, 9999, 1), 1);
        is("sales 10000", x.year(0, 10000, 0), NO);
        is("sales -1", x.year(0, -1, 0), NO);
        is("what 2", x.year(0, 1, 2), NO);
        is("what -1", x.year(0, 1, -1), NO);
        is("stall 3", x.year(3, 1, 0), NO);
        is("stall -1", x.year(-1, 1, 0), NO);
        ThumbScale far = of("stall 1 0 99;");
        for (int b = 0; b < 30; b++) {
            far.bag(0, 0, 0, 999, 0, 0);
        }
        is("the most: 999 * 99 * 9999 by 100", far.year(0, 9999, 0), 999L * 99 * 9999);
        is("the most", far.year(0, 9999, 1), 100);
    }

    private static void truly() {
        promise = 24;
        ThumbScale x = of("stall 5 5 30;stall 5 0 0;");
        is("no bags", x.truly(0, 0), NO);
        x.bag(0, 0, 0, 10, 0, 1);
        is("nothing in it", x.truly(0, 0), NO);
        is("nothing in it", x.truly(0, 1), NO);
        x.bag(0, 0, 0, 10, 15, 0);
        // 30 * 20 by 20 less 10 and -5
        is("upper", x.truly(0, 0), 40);
        is("lower", x.truly(0, 1), 1);
        x.bag(0, 0, 0, 40, 1, 10);
        // 30 * 60 by 60 less 10, -5 and 34
        is("upper", x.truly(0, 0), 600);
        is("lower", x.truly(0, 1), 7);
        x.bag(1, 0, 0, 10, 5, 0);
        is("for nothing", x.truly(1, 0), 0);
        ThumbScale one = of("stall 5 0 2;");
        one.bag(0, 0, 0, 7, 1, 0);
        is("one grain", one.truly(0, 0), 14);
        is("one grain", one.truly(0, 1), 1);
        for (int b = 1; b < 30; b++) {
            one.bag(0, 0, 3, 7, 2, 0);
        }
        // 2 * 210 by 59
        is("30 bags", one.truly(0, 0), 420);
        is("30 bags", one.truly(0, 1), 59);
        is("30 bags", one.favoured(0), 3);
        is("for nothing", x.truly(1, 1), 1);
        is("what 2", x.truly(0, 2), NO);
        is("what -1", x.truly(0, -1), NO);
        is("stall 2", x.truly(2, 0), NO);
        is("stall -1", x.truly(-1, 0), NO);
    }

    private static void cheap() {
        promise = 25;
        ThumbScale x = of("stall 5 0 30;stall 5 0 10;stall 5 0 20;stall 5 0 1;");
        is("no bags", x.cheap(), NONE);
        x.bag(3, 0, 0, 10, 0, 0);
        is("nothing in it", x.cheap(), NONE);
        x.bag(0, 0, 0, 10, 10, 0);
        is("30", x.cheap(), 0);
        x.bag(1, 0, 0, 30, 10, 0);
        is("both 30: the first", x.cheap(), 0);
        x.bag(2, 0, 0, 29, 20, 0);
        is("29", x.cheap(), 2);
        x.bag(1, 0, 0, 1, 1, 0);
        // 310 by 11, 29
        is("28 and a bit", x.cheap(), 1);
        x.bag(0, 0, 0, 1, 2, 0);
        // 330 by 12
        is("27 and a half", x.cheap(), 0);
        x.bag(3, 0, 0, 10, 1, 0);
        is("20", x.cheap(), 3);
        ThumbScale six = of(times(6, "stall 1 0 5;"));
        six.bag(5, 0, 0, 10, 10, 0);
        is("the sixth", six.cheap(), 5);
        six.bag(2, 0, 0, 10, 10, 0);
        is("the third", six.cheap(), 2);
    }

    private static void favoured() {
        promise = 26;
        ThumbScale x = of("stall 5 0 30;stall 5 0 30;");
        is("no bags", x.favoured(0), NONE);
        x.bag(0, 0, 3, 10, 8, 0);
        is("one alone", x.favoured(0), 3);
        is("not here", x.favoured(1), NONE);
        x.bag(0, 0, 1, 10, 8, 0);
        is("of equal ones the first", x.favoured(0), 1);
        x.bag(0, 0, 1, 10, 7, 0);
        is("2 is less than 5 by 2", x.favoured(0), 3);
        x.bag(0, 0, 1, 10, 12, 0);
        is("3 by 3", x.favoured(0), 1);
        ThumbScale far = of("stall 5 0 30;");
        far.bag(0, 0, 0, 10, 5, 0);
        far.bag(0, 0, 0, 10, 5, 0);
        far.bag(0, 0, 2, 10, 4, 0);
        is("5 is less than 6", far.favoured(0), 0);
        far.bag(0, 0, 3, 10, 6, 0);
        is("4 is less than 5", far.favoured(0), 3);
        x.bag(0, 0, 2, 10, 11, 0);
        is("-1", x.favoured(0), 2);
        x.bag(1, 0, 0, 1, 99, 0);
        is("of another stall", x.favoured(0), 2);
        x.bag(0, 0, 0, 10, 11, 0);
        is("old", x.favoured(0), 0);
        is("stall 2", x.favoured(2), BAD);
        is("stall -1", x.favoured(-1), BAD);
    }

    private static void even() {
        promise = 27;
        ThumbScale x = of("luck 1 4 5;stall 5 0 30;stall 5 0 30;");
        is("no bags", x.even(0, 0), 1);
        is("no bags", x.even(0, 1), 1);
        is("no bags", x.even(0, 2), 0);
        x.bag(0, 0, 0, 10, 10, 0);
        is("1 of 1", x.even(0, 0), 4);
        x.bag(0, 0, 0, 10, 8, 0);
        x.bag(0, 0, 0, 10, 7, 0);
        is("2 of 3: 3 * 16 * 6 + 64", x.even(0, 0), 352);
        is("ALL", x.even(0, 1), 1000);
        is("e", x.even(0, 2), 2);
        is("what 3", x.even(0, 3), -1);
        is("what -1", x.even(0, -1), -1);
        is("stall 2", x.even(2, 0), -1);
        is("stall -1", x.even(-1, 0), -1);
        for (int b = 3; b < 18; b++) {
            x.bag(0, 0, 0, 10, 0, 0);
        }
        is("18", x.even(0, 1), 1000000000000000000L);
        is("18", x.even(0, 2), 2);
        // all but none and one: 10^18 - 6^18 - 18 * 4 * 6^17
        is("18", x.even(0, 0), 1000000000000000000L - 101559956668416L - 72 * 16926659444736L);
        x.bag(0, 0, 0, 10, 10, 0);
        is("19", x.even(0, 0), -2);
        is("19", x.even(0, 1), -2);
        is("19", x.even(0, 2), -2);
        is("BAD ahead of STATE", x.even(0, 3), -1);
        is("the other", x.even(1, 0), 1);
    }

    private static void trial() {
        promise = 28;
        ThumbScale x = of("stall 5 0 30;stall 5 0 30;");
        is("first", x.trial(0, 0, 1, 0), 1);
        is("other", x.trial(1, 365, 999, 999), 1);
        is("second", x.trial(0, 0, 1, 0), 2);
        is("day 366", x.trial(0, 366, 1, 0), BAD);
        is("day -1", x.trial(0, -1, 1, 0), BAD);
        is("lead 0", x.trial(0, 0, 0, 0), BAD);
        is("lead 1000", x.trial(0, 0, 1000, 0), BAD);
        is("read -1", x.trial(0, 0, 1, -1), BAD);
        is("read 1000", x.trial(0, 0, 1, 1000), BAD);
        is("stall 2", x.trial(2, 0, 1, 0), BAD);
        is("stall -1", x.trial(-1, 0, 1, 0), BAD);
        for (int t = 3; t < 20; t++) {
            is("trial " + t, x.trial(0, 0, 1, 0), t);
        }
        is("TRIALS", x.count(3), 20);
        is("the 21st", x.trial(0, 0, 1, 0), FULL);
        is("the 21st, of the other", x.trial(1, 0, 1, 0), FULL);
        is("BAD ahead of FULL", x.trial(2, 0, 1, 0), BAD);
    }

    private static void middle() {
        promise = 29;
        ThumbScale x = of("stall 5 0 30;stall 5 0 30;");
        is("none", x.middle(0), NO);
        int[] reads = {105, 97, 101, 99, 150, 0};
        int[] due = {5, -3, 1, -1, 1, -1};
        for (int t = 0; t < 6; t++) {
            x.trial(0, t, 100, reads[t]);
            is("behind " + t, x.middle(0), due[t]);
            x.trial(1, t, 1, 999);
            is("of the other", x.middle(1), 998);
        }
        is("stall 2", x.middle(2), NO);
        is("stall -1", x.middle(-1), NO);
    }

    private static void drift() {
        promise = 30;
        ThumbScale x = of("stall 5 0 30;stall 5 0 30;");
        is("none", x.drift(0, 0), NO);
        x.trial(0, 10, 100, 102);
        is("one", x.drift(0, 0), NO);
        x.trial(0, 10, 100, 50);
        is("of one day", x.drift(0, 1), NO);
        x.trial(1, 300, 1, 999);
        is("of another", x.drift(0, 0), NO);
        x.trial(0, 30, 100, 70);
        // m 3, DAYS 50, OFFS 2 -50 -30, products 20 -500 -900: 3 * -1380 + 50 * 78 by 3 * 1100 - 2500
        is("upper", x.drift(0, 0), -3);
        is("lower", x.drift(0, 1), 10);
        x.trial(1, 0, 1, 999);
        is("none at all", x.drift(1, 0), 0);
        is("none at all", x.drift(1, 1), 1);
        ThumbScale day = of("stall 5 0 30;");
        day.trial(0, 1, 100, 107);
        day.trial(0, 0, 100, 100);
        is("a day", day.drift(0, 0), 7);
        is("a day", day.drift(0, 1), 1);
        is("what 2", x.drift(0, 2), NO);
        is("what -1", x.drift(0, -1), NO);
        is("stall 2", x.drift(2, 0), NO);
        is("stall -1", x.drift(-1, 0), NO);
    }

    private static void lot() {
        promise = 31;
        ThumbScale x = of("stall 1 0 0;way honest;");
        is("first", x.lot(Integer.MIN_VALUE), 1);
        is("then", x.lot(0), Integer.MIN_VALUE);
        x.sales(0, 0, 0, 1);
        is("goes on", x.lot(-1), 12345);
        x.sales(0, 0, 0, 2);
        int lot = -1103515245 + 12345;
        is("goes on twice", x.lot(0), lot * 1103515245 + 12345);
    }

    private static void sales() {
        promise = 32;
        ThumbScale x = of("luck 3 5 2;stall 1 0 0;way honest;way scale 3;way thumb 99 in 2 to old;way round;");
        // THE LOT 0 goes on to 12345: DRAW 0, the least j
        x.lot(0);
        is("honest -1", x.sales(0, 0, 0, 1), 0);
        is("honest -1", x.steps(), -1);
        x.lot(0);
        is("scale 2", x.sales(1, 0, 0, 1), 1);
        is("scale 2", x.steps(), 2);
        x.lot(0);
        is("round 0", x.sales(3, 0, 0, 1), 0);
        is("round 0", x.steps(), 0);
        // THE LOT 1 goes on to 1103527590: upper bits 16838, left over by 600: 38
        x.lot(1);
        is("38: honest -1", x.sales(0, 0, 0, 1), 0);
        is("38: honest -1", x.steps(), -1);
        // from there to 2524885223 (-1770082073): upper bits 38526, left over 126
        x.lot(1);
        x.sales(2, 0, 0, 2);
        is("38, 126: thumb to old -1, 0", x.steps(), -1);
        x.lot(1);
        x.sales(2, 0, 1, 2);
        is("38, 126: thumb to young -1, -1", x.steps(), -2);
        int lot = 1;
        int tooShort = 0;
        int sum = 0;
        for (int i = 0; i < 200; i++) {
            lot = lot * 1103515245 + 12345;
            int draw = (lot >>> 16) % 600;
            int j = draw < 90 ? -1 : draw < 240 ? 0 : draw < 300 ? 1 : draw < 390 ? 98 : draw < 540 ? 99 : 100;
            tooShort += j >= 1 ? 1 : 0;
            sum += j;
        }
        x.lot(1);
        is("200", x.sales(2, 0, 0, 200), tooShort);
        is("200", x.steps(), sum);
        int[] draws = {0, 89, 90, 239, 240, 299, 300, 389, 390, 539, 540, 599};
        int[] due = {-1, -1, 0, 0, 1, 1, 98, 98, 99, 99, 100, 100};
        for (int i = 0; i < draws.length; i++) {
            x.lot(aheadOf(draws[i]));
            is("draw " + draws[i], x.sales(2, 0, 0, 1), due[i] >= 1 ? 1 : 0);
            is("draw " + draws[i], x.steps(), due[i]);
        }
        x.lot(1);
        x.sales(2, 0, 0, 200);
        is("n 0", x.sales(0, 0, 0, 0), BAD);
        is("n 201", x.sales(0, 0, 0, 201), BAD);
        is("way 4", x.sales(4, 0, 0, 1), BAD);
        is("way -1", x.sales(-1, 0, 0, 1), BAD);
        is("stall 1", x.sales(0, 1, 0, 1), BAD);
        is("sort 4", x.sales(0, 0, 4, 1), BAD);
        is("sort -1", x.sales(0, 0, -1, 1), BAD);
        is("steps stay", x.steps(), sum);
        is("the lot stays", x.lot(1), lot);
    }

    /** A LOT from which the next DRAW is that. */
    private static int aheadOf(int draw) {
        int lot = 0;
        while (((lot * 1103515245 + 12345) >>> 16) % 600 != draw) {
            lot++;
        }
        return lot;
    }

    private static void steps() {
        promise = 33;
        ThumbScale x = of("luck 0 0 10;stall 1 0 0;way scale 99;way honest;");
        is("ahead of any", x.steps(), 0);
        x.sales(0, 0, 0, 200);
        is("200 of 100", x.steps(), 20000);
        x.keep(0);
        x.sales(1, 0, 0, 7);
        is("the latest alone", x.steps(), 7);
        x.back(0);
        is("an image has it not", x.steps(), 7);
    }

    private static void score() {
        promise = 34;
        ThumbScale x = of("stall 4 0 0;");
        x.bag(0, 7, 3, 100, 85, 0);
        x.bag(0, 11, 2, 85, 100, 0);
        // SHORT 15, STEPS 4, HOUR 7, SORT 3; SHORT -15, STEPS -4, HOUR 11, SORT 2
        long[][] due = {{15, 7, 11, 30, 33, 19, 12}, {-15, -7, -19, -30, -28, -19, -30}};
        for (int b = 0; b < 2; b++) {
            for (int kind = 0; kind < 7; kind++) {
                is("kind " + kind + " bag " + b, x.score(kind, b), due[b][kind]);
            }
        }
        long trace = x.trace();
        is("kind 7", x.score(7, 0), NO);
        is("kind -1", x.score(-1, 0), NO);
        is("bag 2", x.score(0, 2), NO);
        is("bag -1", x.score(0, -1), NO);
        is("a refused one leaves no trace", x.trace(), trace);
    }

    private static void keepAndBack() {
        promise = 35;
        ThumbScale x = lookedAt();
        is("image 2", x.keep(2), BAD);
        is("image -1", x.keep(-1), BAD);
        x.trial(0, 10, 100, 101);
        x.lot(44);
        is("keep 0", x.keep(0), 6);
        x.belief(0, 5);
        x.bar(0, 7);
        x.bag(0, 0, 0, 500, 1, 0);
        x.trial(0, 20, 100, 103);
        x.seldom(1, 0, 11, 15, 1);
        x.lot(45);
        is("keep 1", x.keep(1), 7);
        x.seldom(0, 0, 0, 1, 3);
        x.score(0, 0);
        promise = 36;
        is("image 2", x.back(2), BAD);
        is("image -1", x.back(-1), BAD);
        is("back 0", x.back(0), 6);
        is("BAGS", x.count(2), 6);
        is("TRIALS", x.count(3), 1);
        is("the trial", x.middle(0), 1);
        is("LOOKS", x.counted(2), -2);
        is("BELIEF stays", x.belief(0, 5), 5);
        is("BAR stays", x.bar(0, 7), 7);
        is("THE TRACE stays", x.trace(), 1);
        is("THE LOT", x.lot(9), 44);
        is("a bag in its stead", x.bag(1, 1, 1, 7, 7, 0), 6);
        is("back 1", x.back(1), 7);
        is("the bag", x.about(6, 3), 499);
        is("the bag's stall", x.about(6, 0), 0);
        is("TRIALS", x.count(3), 2);
        is("DRIFT", x.drift(0, 0), 1);
        is("LOOKS", x.counted(2), 1);
        is("the latest", x.counted(0), 4);
        is("its ALL", x.counted(1), 100);
        is("THE LOT", x.lot(9), 45);
        is("again", x.back(1), 7);
        is("THE LOT again", x.lot(9), 45);
        is("back 0 again", x.back(0), 6);
        allOfAnImage();
        ThumbScale y = new ThumbScale();
        is("nothing kept", y.keep(1), 0);
        y.lot(3);
        typeIn(y, "stall");
        is("not that one", y.back(0), STATE);
        is("nothing back", y.back(1), 0);
        is("THE LOT", y.lot(0), 1);
        is("THE TEXT stays", y.count(4), 5);
    }

    /** What comes back was overwritten in every part meanwhile. */
    private static void allOfAnImage() {
        ThumbScale x = of("stall 5 1 10;stall 10 0 20;");
        x.keep(1);
        for (int b = 0; b < 30; b++) {
            x.bag(1, 4, 2, 100 + b, 50, 0);
        }
        for (int t = 0; t < 20; t++) {
            x.trial(1, t, 100, 100 + 3 * t);
        }
        x.seldom(1, 0, 3, 15, 0);
        long told = x.truly(1, 0);
        is("keep", x.keep(0), 30);
        is("empty again", x.back(1), 0);
        is("no LOOKS", x.counted(0), -2);
        for (int b = 0; b < 30; b++) {
            x.bag(0, 1, 0, 1, 999, 0);
            if (b == 2) {
                is("another LOOK", x.seldom(0, 0, 11, 15, 0), 1000);
            }
        }
        for (int t = 0; t < 20; t++) {
            x.trial(0, 300, 999, 0);
        }
        is("its ALL", x.counted(1), 1000);
        is("back", x.back(0), 30);
        for (int b = 0; b < 30; b++) {
            is("STALL", x.about(b, 0), 1);
            is("HOUR", x.about(b, 1), 4);
            is("SORT", x.about(b, 2), 2);
            is("SHORT", x.about(b, 3), 50 + b);
            is("STEPS", x.about(b, 4), (50 + b + 5) / 10);
        }
        is("TOLD", x.truly(1, 0), told);
        is("TRIALS", x.stall(1, 4), 20);
        is("MIDDLE", x.middle(1), 27);
        is("DRIFT", x.drift(1, 0), 3);
        is("DRIFT", x.drift(1, 1), 1);
        is("the latest LOOK", x.counted(0), 1);
        is("its ALL", x.counted(1), 1);
    }

    private static void count() {
        promise = 37;
        ThumbScale x = of("luck 1 2 7;stall 1 1 1;stall 1 1 1;way round;way honest;way honest;");
        typeIn(x, "12345");
        x.bag(0, 0, 0, 1, 1, 0);
        for (int t = 0; t < 4; t++) {
            x.trial(1, 0, 1, 1);
        }
        int[] due = {2, 3, 1, 4, 5, 1, 2, 7};
        for (int what = 0; what < 8; what++) {
            is("count " + what, x.count(what), due[what]);
        }
        is("count 8", x.count(8), BAD);
        is("count -1", x.count(-1), BAD);
    }

    private static void trace() {
        promise = 38;
        long[] due = {1, 11, 101, 1001, 11001, 100001, 1100001};
        for (int kind = 0; kind < 7; kind++) {
            ThumbScale x = of("stall 1 1 1;");
            x.bag(0, 0, 0, 1, 1, 0);
            x.score(kind, 0);
            is("kind " + kind, x.trace(), due[kind]);
            x.keep(0);
            x.score(kind, 0);
            x.back(0);
            is("twice " + kind, x.trace(), 2 * due[kind]);
            is("asked again " + kind, x.trace(), 2 * due[kind]);
        }
    }

    /** One digest of all that can be asked without a change, ahead of and behind a row of refused calls. */
    private static void refusedChangesNothing() {
        promise = 0;
        ThumbScale x = lookedAt();
        x.trial(0, 5, 10, 12);
        x.seldom(0, 0, 11, 15, 1);
        x.keep(1);
        typeIn(x, "way");
        long before = digest(x);
        x.type(5, 0);
        x.market();
        x.bag(0, 0, 0, 0, 0, 0);
        x.seldom(0, 0, 11, 16, 1);
        x.belief(0, 10);
        x.bar(7, 0);
        x.trial(0, 0, 0, 0);
        x.sales(0, 0, 0, 0);
        x.score(7, 0);
        x.keep(2);
        x.back(0);
        x.back(2);
        is("the digest", digest(x), before);
    }

    private static long digest(ThumbScale x) {
        long d = x.trace() * 31 + x.steps();
        for (int what = 0; what < 8; what++) {
            d = d * 31 + x.count(what);
        }
        for (int what = 0; what < 3; what++) {
            d = d * 31 + x.counted(what);
        }
        for (int b = 0; b < x.count(2); b++) {
            for (int what = 0; what < 5; what++) {
                d = d * 31 + x.about(b, what);
            }
        }
        d = d * 31 + x.cost(0, 0);
        d = d * 31 + x.enough(-1);
        d = d * 31 + x.middle(0);
        d = d * 31 + x.odds(0, 0, 0);
        int lot = x.lot(0);
        x.lot(lot);
        return d * 31 + lot;
    }
}
