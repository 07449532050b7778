import java.math.BigInteger;
import java.util.ArrayList;
import java.util.Arrays;
import java.util.List;
import java.util.Random;
import java.util.TreeMap;
import java.util.regex.Matcher;
import java.util.regex.Pattern;

/** Random runs of calls, each answered by ThumbScale and by a model that is written in another way. */
public final class ModelTest {
    private static final int RUNS = 1500;
    private static final int CALLS = 512;

    public static void main(String[] args) {
        int wrong = 0;
        long calls = 0;
        for (int seed = 0; seed < RUNS && wrong < 5; seed++) {
            Run run = new Run(seed);
            wrong += run.play() ? 0 : 1;
            calls += run.played;
        }
        System.out.println("ModelTest: " + calls + " calls, " + wrong + " runs wrong");
        if (wrong != 0) {
            System.exit(1);
        }
    }

    static final class Run {
        final Random r;
        final int seed;
        final ThumbScale x = new ThumbScale();
        final Model m = new Model();
        final StringBuilder log = new StringBuilder();
        int played;
        boolean right = true;

        Run(int seed) {
            this.seed = seed;
            r = new Random(seed);
        }

        boolean play() {
            if (r.nextInt(20) != 0) {
                typeText(Texts.right(r));
                same("market()", x.market(), m.market());
            }
            // a step makes two calls at the most behind its text, and none may be the 513th
            while (played < CALLS - 1 && right) {
                step();
            }
            return right;
        }

        void typeText(String text) {
            for (int at = 0; at < text.length() && played < CALLS - 1; ) {
                int n = Math.min(1 + r.nextInt(8), text.length() - at);
                long v = r.nextLong();
                for (int i = 0; i < n; i++) {
                    v = v << 8 | text.charAt(at + i);
                }
                same("type(" + v + ", " + n + ")", x.type(v, n), m.type(v, n));
                at += n;
            }
        }

        void same(String call, long got, long want) {
            played++;
            log.append(call).append(" = ").append(want).append('\n');
            if (got != want && right) {
                right = false;
                System.out.println("seed " + seed + ":\n" + log + "the last one answered " + got);
            }
        }

        /** Mostly within, seldom at or beyond an edge. */
        int in(int least, int most) {
            switch (r.nextInt(40)) {
                case 0: return least - 1;
                case 1: return most + 1;
                case 2: return r.nextBoolean() ? Integer.MIN_VALUE : Integer.MAX_VALUE;
                case 3: case 4: return least;
                case 5: case 6: return most;
                default: return most < least ? least : least + r.nextInt(most - least + 1);
            }
        }

        int stall() {
            return in(0, m.stalls.size() - 1);
        }

        int way() {
            return in(0, m.ways.size() - 1);
        }

        void step() {
            int a = stall(), w = way(), o = way(), s = in(0, 3), what = in(0, 1);
            switch (r.nextInt(48)) {
                case 0: {
                    if (r.nextInt(4) == 0) {
                        typeText(r.nextBoolean() ? Texts.right(r) : Texts.wrong(r));
                        same("market()", x.market(), m.market());
                    }
                    break;
                }
                case 1: {
                    if (r.nextInt(3) == 0) {
                        same("clear()", x.clear(), m.clear());
                    } else {
                        long v = r.nextLong();
                        int n = in(1, 8);
                        same("type(" + v + ", " + n + ")", x.type(v, n), m.type(v, n));
                    }
                    break;
                }
                case 2: { int k = in(0, 4); same("stall(" + a + ", " + k + ")", x.stall(a, k), m.stall(a, k)); break; }
                case 3: { int k = in(0, 3); same("way(" + w + ", " + k + ")", x.way(w, k), m.way(w, k)); break; }
                case 4: case 5: {
                    int j = in(-2, r.nextBoolean() ? 5 : 101);
                    same("often(" + w + ", " + a + ", " + s + ", " + j + ")", x.often(w, a, s, j), m.often(w, a, s, j));
                    break;
                }
                case 6: case 7: case 8: case 9: bag(a, s); break;
                case 10: case 11: {
                    int b = in(0, m.bags.size() - 1), k = in(0, 4);
                    same("about(" + b + ", " + k + ")", x.about(b, k), m.about(b, k));
                    break;
                }
                case 12: case 13: case 14: case 15: case 16: look(what); break;
                case 17: case 18: { int k = in(0, 2); same("counted(" + k + ")", x.counted(k), m.counted(k)); break; }
                case 19: case 20: same("likely(" + w + ", " + a + ", " + what + ")", x.likely(w, a, what), m.likely(w, a, what)); break;
                case 21: { int v = in(0, 9); same("belief(" + w + ", " + v + ")", x.belief(w, v), m.belief(w, v)); break; }
                case 22: case 23: same("odds(" + w + ", " + a + ", " + what + ")", x.odds(w, a, what), m.odds(w, a, what)); break;
                case 24: same("judged(" + a + ")", x.judged(a), m.judged(a)); break;
                case 25: case 26: same("apart(" + w + ", " + o + ", " + a + ", " + s + ")", x.apart(w, o, a, s), m.apart(w, o, a, s)); break;
                case 27: same("follow(" + w + ", " + o + ", " + a + ")", x.follow(w, o, a), m.follow(w, o, a)); break;
                case 28: case 29: {
                    int k = in(0, 7);
                    int v = k >= 0 && k < 8 ? in(Model.BAR_LEAST[k], Model.BAR_MOST[k]) : 1;
                    same("bar(" + k + ", " + v + ")", x.bar(k, v), m.bar(k, v));
                    break;
                }
                case 30: { int n = in(0, m.bars[7]), k = in(0, Math.min(n, 8)); same("done(" + n + ", " + k + ")", x.done(n, k), m.done(n, k)); break; }
                case 31: { int n = in(0, m.bars[7]), k = in(0, Math.min(n, 8)); same("cost(" + n + ", " + k + ")", x.cost(n, k), m.cost(n, k)); break; }
                case 32: { int n = in(-1, m.bars[7]); same("enough(" + n + ")", x.enough(n), m.enough(n)); break; }
                case 33: case 34: {
                    int n = in(0, 9999);
                    same("year(" + a + ", " + n + ", " + what + ")", x.year(a, n, what), m.year(a, n, what));
                    break;
                }
                case 35: same("truly(" + a + ", " + what + ")", x.truly(a, what), m.truly(a, what)); break;
                case 36: same("cheap()", x.cheap(), m.cheap()); break;
                case 37: same("favoured(" + a + ")", x.favoured(a), m.favoured(a)); break;
                case 38: { int k = in(0, 2); same("even(" + a + ", " + k + ")", x.even(a, k), m.even(a, k)); break; }
                case 39: case 40: {
                    int day = in(0, 365), lead = in(1, 999), read = in(0, 999);
                    same("trial(" + a + ", " + day + ", " + lead + ", " + read + ")", x.trial(a, day, lead, read), m.trial(a, day, lead, read));
                    break;
                }
                case 41: same("middle(" + a + ")", x.middle(a), m.middle(a)); break;
                case 42: same("drift(" + a + ", " + what + ")", x.drift(a, what), m.drift(a, what)); break;
                case 43: {
                    int n = in(1, 200);
                    same("sales(" + w + ", " + a + ", " + s + ", " + n + ")", x.sales(w, a, s, n), m.sales(w, a, s, n));
                    same("steps()", x.steps(), m.steps);
                    break;
                }
                case 44: { int v = r.nextInt(); same("lot(" + v + ")", x.lot(v), m.lot(v)); break; }
                case 45: {
                    int k = in(0, 6), b = in(0, m.bags.size() - 1);
                    same("score(" + k + ", " + b + ")", x.score(k, b), m.score(k, b));
                    same("trace()", x.trace(), m.trace);
                    break;
                }
                case 46: {
                    int i = in(0, 1);
                    if (r.nextInt(3) == 0) {
                        same("keep(" + i + ")", x.keep(i), m.keep(i));
                    } else {
                        same("back(" + i + ")", x.back(i), m.back(i));
                    }
                    break;
                }
                default: { int k = in(0, 7); same("count(" + k + ")", x.count(k), m.count(k)); break; }
            }
        }

        void bag(int a, int s) {
            int hour = in(0, 11), told = in(1, 999), found = in(0, 999), minutes = in(0, 99);
            if (r.nextInt(4) != 0 && told > 0 && told < 1000) {
                // near enough that a WAY may have made it
                minutes = r.nextInt(4);
                found = Math.max(0, Math.min(999, told - r.nextInt(30) + 8));
            }
            same("bag(" + a + ", " + hour + ", " + s + ", " + told + ", " + found + ", " + minutes + ")",
                    x.bag(a, hour, s, told, found, minutes), m.bag(a, hour, s, told, found, minutes));
        }

        void look(int what) {
            int a = r.nextInt(3) == 0 ? -1 : stall();
            int from = in(0, r.nextBoolean() ? 3 : 11), to = in(r.nextBoolean() ? 8 : 0, 11), sorts = r.nextBoolean() ? 15 : in(0, 15);
            int xx = in(-2, 3);
            String args = "(" + a + ", " + from + ", " + to + ", " + sorts + ", " + xx;
            if (r.nextBoolean()) {
                same("look" + args + ", " + what + ")", x.look(a, from, to, sorts, xx, what), m.look(a, from, to, sorts, xx, what));
            } else {
                same("seldom" + args + ")", x.seldom(a, from, to, sorts, xx), m.seldom(a, from, to, sorts, xx));
            }
        }
    }

    static final class Texts {
        static final String[] SORTS = {"old", "young", "friend", "stranger"};

        static String right(Random r) {
            List<String> items = new ArrayList<>();
            for (int i = 1 + r.nextInt(r.nextInt(3) == 0 ? 6 : 2); i > 0; i--) {
                items.add("stall " + (1 + r.nextInt(20)) + " " + r.nextInt(10) + " " + r.nextInt(100));
            }
            for (int i = r.nextInt(7); i > 0; i--) {
                items.add(way(r));
            }
            if (r.nextBoolean()) {
                int less = r.nextInt(11), just = r.nextInt(11 - less);
                items.add("luck " + less + " " + just + " " + (10 - less - just));
            }
            java.util.Collections.shuffle(items, r);
            StringBuilder s = new StringBuilder();
            for (String item : items) {
                s.append(item).append(r.nextInt(4) == 0 ? " ;" : r.nextInt(4) == 0 ? "; " : ";");
            }
            return s.toString();
        }

        static String way(Random r) {
            int n = 1 + r.nextInt(r.nextBoolean() ? 99 : 20);
            switch (r.nextInt(5)) {
                case 0: return "way honest";
                case 1: return "way scale " + n;
                case 2: return "way thumb " + n + " in " + (1 + r.nextInt(5));
                case 3: {
                    List<String> sorts = new ArrayList<>(Arrays.asList(SORTS));
                    java.util.Collections.shuffle(sorts, r);
                    return "way thumb " + n + " in " + (1 + r.nextInt(5)) + " to "
                            + String.join(" ", sorts.subList(0, 1 + r.nextInt(4)));
                }
                default: return "way round";
            }
        }

        static String wrong(Random r) {
            String[] parts = {"luck", "stall", "way", "honest", "scale", "thumb", "in", "to", "round", "old", "young",
                "friend", "stranger", ";", "0", "1", "2", "5", "10", "99", "100", "01", "00", "roun", "x", "A", "\u00e9", "-", "  "};
            StringBuilder s = new StringBuilder(right(r));
            for (int i = 1 + r.nextInt(2); i > 0; i--) {
                int at = r.nextInt(s.length() + 1);
                int space = s.indexOf(" ", at);
                at = space >= 0 && r.nextInt(4) != 0 ? space : at;
                switch (r.nextInt(4)) {
                    case 0: s.insert(at, " " + parts[r.nextInt(parts.length)]); break;
                    case 1: s.insert(at, parts[r.nextInt(parts.length)]); break;
                    case 2: s.delete(at, Math.min(s.length(), at + 1 + r.nextInt(4))); break;
                    default: s.setLength(at);
                }
            }
            return s.toString();
        }
    }

    record Stall(int step, int dry, int price) { }

    record Way(int what, int n, int m, int sorts) { }

    record Bag(int stall, int hour, int sort, int told, int tooLittle, int steps) { }

    record Trial(int stall, int day, int off) { }

    record Image(List<Bag> bags, List<Trial> trials, int looks, BigInteger seldom, BigInteger all, int lot) { }

    /** A text cut into TOKENS all at once, and read by their patterns. */
    static final class Parsed {
        static final String NEVER = "(?!)";
        final List<Stall> stalls = new ArrayList<>();
        final List<Way> ways = new ArrayList<>();
        int[] luck;
        int items;
        int fault = -1;
        private final List<String> tokens = new ArrayList<>();
        private final List<Integer> places = new ArrayList<>();
        private int at;

        Parsed(String text) {
            Matcher cut = Pattern.compile("[a-z]+|[0-9]+|[^ ]", Pattern.DOTALL).matcher(text);
            while (cut.find()) {
                tokens.add(cut.group());
                places.add(cut.start());
            }
            tokens.add("");
            places.add(text.length());
            while (fault < 0 && !tokens.get(at).isEmpty()) {
                item();
            }
        }

        private String want(String pattern) {
            if (fault < 0 && tokens.get(at).matches(pattern)) {
                return tokens.get(at++);
            }
            fault = fault < 0 ? places.get(at) : fault;
            return "0";
        }

        private int number(int least, int most) {
            StringBuilder all = new StringBuilder(NEVER);
            for (int v = Math.max(0, least); v <= most; v++) {
                all.append('|').append(v);
            }
            return Integer.parseInt(want(all.toString()));
        }

        private void item() {
            String may = (luck == null ? "luck|" : "") + (stalls.size() < 6 ? "stall|" : "") + (ways.size() < 6 ? "way|" : "") + NEVER;
            switch (want(may)) {
                case "luck": {
                    int a = number(0, 10), b = number(0, 10), c = number(10 - a - b, 10 - a - b);
                    luck = new int[] {a, b, c};
                    break;
                }
                case "stall": stalls.add(new Stall(number(1, 20), number(0, 9), number(0, 99))); break;
                case "way": way(); break;
                default: return;
            }
            want(";");
            items++;
        }

        private void way() {
            switch (want("honest|scale|thumb|round")) {
                case "honest": ways.add(new Way(0, 0, 1, 15)); break;
                case "scale": ways.add(new Way(1, number(1, 99), 1, 15)); break;
                case "thumb": {
                    int n = number(1, 99);
                    want("in");
                    int m = number(1, 5);
                    int sorts = 15;
                    if (fault < 0 && tokens.get(at).equals("to")) {
                        at++;
                        sorts = 0;
                        List<String> left = new ArrayList<>(Arrays.asList(Texts.SORTS));
                        do {
                            String sort = want(left.isEmpty() ? NEVER : String.join("|", left));
                            left.remove(sort);
                            int i = Arrays.asList(Texts.SORTS).indexOf(sort);
                            sorts += i < 0 ? 0 : 1 << i;
                        } while (fault < 0 && !tokens.get(at).equals(";"));
                    }
                    ways.add(new Way(2, n, m, sorts));
                    break;
                }
                case "round": ways.add(new Way(3, 0, 1, 15)); break;
                default: break;
            }
        }
    }

    static final class Model {
        static final int[] BAR_LEAST = {0, 0, 1, 1, 0, 0, 0, 1};
        static final int[] BAR_MOST = {10, 10, 9, 9, 999, 999, 99, 8};
        static final long NO = ThumbScale.NO;

        StringBuilder text = new StringBuilder();
        int[] luck = {2, 6, 2};
        List<Stall> stalls = new ArrayList<>();
        List<Way> ways = new ArrayList<>();
        List<Bag> bags = new ArrayList<>();
        List<Trial> trials = new ArrayList<>();
        int[] beliefs = new int[6];
        int[] bars = {2, 6, 5, 1, 100, 20, 1, 6};
        int looks;
        BigInteger seldom, all;
        int lot = 1;
        int steps;
        long trace;
        Image[] images = new Image[2];

        boolean isStall(int a) {
            return a >= 0 && a < stalls.size();
        }

        boolean isWay(int w) {
            return w >= 0 && w < ways.size();
        }

        static boolean in(int v, int least, int most) {
            return v >= least && v <= most;
        }

        List<Bag> bagsOf(int a) {
            return bags.stream().filter(b -> b.stall == a).toList();
        }

        List<Trial> trialsOf(int a) {
            return trials.stream().filter(t -> t.stall == a).toList();
        }

        static long part(BigInteger upper, BigInteger lower, int what) {
            BigInteger g = upper.gcd(lower);
            return (what == 0 ? upper : lower).divide(g).longValueExact();
        }

        int type(long v, int n) {
            if (!in(n, 1, 8)) {
                return -1;
            }
            if (text.length() + n > 400) {
                return -3;
            }
            byte[] bytes = java.nio.ByteBuffer.allocate(8).putLong(v).array();
            for (int i = 8 - n; i < 8; i++) {
                text.append((char) (bytes[i] & 0xff));
            }
            return text.length();
        }

        int clear() {
            int had = text.length();
            text = new StringBuilder();
            return had;
        }

        int market() {
            Parsed p = new Parsed(text.toString());
            if (p.fault >= 0) {
                return -10 - p.fault;
            }
            luck = p.luck == null ? new int[] {2, 6, 2} : p.luck;
            stalls = p.stalls;
            ways = p.ways;
            text = new StringBuilder();
            bags = new ArrayList<>();
            trials = new ArrayList<>();
            looks = 0;
            Arrays.fill(beliefs, 1);
            images = new Image[2];
            return p.items;
        }

        int stall(int a, int what) {
            if (!isStall(a) || !in(what, 0, 4)) {
                return -1;
            }
            Stall s = stalls.get(a);
            return new int[] {s.step, s.dry, s.price, bagsOf(a).size(), trialsOf(a).size()}[what];
        }

        int way(int w, int what) {
            if (!isWay(w) || !in(what, 0, 3)) {
                return -1;
            }
            Way y = ways.get(w);
            return new int[] {y.what, y.n, y.m, y.sorts}[what];
        }

        /** HOW OFTEN, all j of it, in 600ths. */
        TreeMap<Integer, Integer> spread(int w, int a, int sort) {
            Way y = ways.get(w);
            TreeMap<Integer, Integer> map = new TreeMap<>();
            int more = (int) Math.ceil(y.n / (double) stalls.get(a).step);
            for (int i = 0; i < 3; i++) {
                int j = i - 1;
                int share = luck[i] * 60;
                if (y.what == 3) {
                    map.merge(Math.max(0, j), share, Integer::sum);
                } else if (y.what == 0 || (y.sorts >> sort) % 2 == 0) {
                    map.merge(j, share, Integer::sum);
                } else {
                    map.merge(j + more, share / y.m, Integer::sum);
                    map.merge(j, share - share / y.m, Integer::sum);
                }
            }
            return map;
        }

        int often(int w, int a, int sort, int j) {
            if (!isWay(w) || !isStall(a) || !in(sort, 0, 3)) {
                return -1;
            }
            return spread(w, a, sort).getOrDefault(j, 0);
        }

        int bag(int a, int hour, int sort, int told, int found, int minutes) {
            if (!isStall(a) || !in(hour, 0, 11) || !in(sort, 0, 3) || !in(told, 1, 999) || !in(found, 0, 999) || !in(minutes, 0, 99)) {
                return -1;
            }
            if (bags.size() == 30) {
                return -3;
            }
            Stall s = stalls.get(a);
            int tooLittle = told - found - (int) Math.floor(s.dry * minutes / 10.0);
            int nearest = (int) Math.floor((2.0 * tooLittle + s.step) / (2.0 * s.step));
            bags.add(new Bag(a, hour, sort, told, tooLittle, nearest));
            return bags.size() - 1;
        }

        long about(int b, int what) {
            if (!in(b, 0, bags.size() - 1) || !in(what, 0, 4)) {
                return NO;
            }
            Bag g = bags.get(b);
            return new long[] {g.stall, g.hour, g.sort, g.tooLittle, g.steps}[what];
        }

        List<Bag> seen(int a, int from, int to, int sorts) {
            if (!(a == -1 || isStall(a)) || !in(from, 0, 11) || !in(to, 0, 11) || !in(sorts, 0, 15)) {
                return null;
            }
            return bags.stream().filter(b -> (a == -1 || b.stall == a) && in(b.hour, from, to) && (sorts & 1 << b.sort) != 0).toList();
        }

        int look(int a, int from, int to, int sorts, int x, int what) {
            List<Bag> seen = seen(a, from, to, sorts);
            if (seen == null || !in(what, 0, 1)) {
                return -1;
            }
            return what == 0 ? seen.size() : (int) seen.stream().filter(b -> b.steps >= x).count();
        }

        static BigInteger rows(int n, int k, int p) {
            BigInteger sum = BigInteger.ZERO;
            for (int i = k; i <= n; i++) {
                BigInteger choose = BigInteger.ONE;
                for (int c = 0; c < i; c++) {
                    choose = choose.multiply(BigInteger.valueOf(n - c)).divide(BigInteger.valueOf(c + 1));
                }
                sum = sum.add(choose.multiply(BigInteger.valueOf(p).pow(i)).multiply(BigInteger.valueOf(10 - p).pow(n - i)));
            }
            return sum;
        }

        long seldom(int a, int from, int to, int sorts, int x) {
            List<Bag> seen = seen(a, from, to, sorts);
            if (seen == null) {
                return -1;
            }
            if (seen.size() > 18) {
                return -2;
            }
            int p = 0;
            for (int i = 0; i < 3; i++) {
                p += i - 1 >= x ? luck[i] : 0;
            }
            seldom = rows(seen.size(), look(a, from, to, sorts, x, 1), p);
            all = BigInteger.TEN.pow(seen.size());
            looks++;
            return seldom.longValueExact();
        }

        long counted(int what) {
            if (!in(what, 0, 2)) {
                return -1;
            }
            if (looks == 0) {
                return -2;
            }
            return what == 0 ? seldom.multiply(BigInteger.valueOf(looks)).min(all).longValueExact() : what == 1 ? all.longValueExact() : looks;
        }

        BigInteger product(int w, int a) {
            BigInteger product = BigInteger.ONE;
            for (Bag b : bagsOf(a)) {
                product = product.multiply(BigInteger.valueOf(often(w, a, b.sort, b.steps)));
            }
            return product;
        }

        long likely(int w, int a, int what) {
            if (!isWay(w) || !isStall(a) || !in(what, 0, 1)) {
                return -1;
            }
            int n = bagsOf(a).size();
            return n > 6 ? -2 : part(product(w, a), BigInteger.valueOf(600).pow(n), what);
        }

        int belief(int w, int v) {
            if (!isWay(w) || !in(v, 0, 9)) {
                return -1;
            }
            int was = beliefs[w];
            beliefs[w] = v;
            return was;
        }

        BigInteger weight(int w, int a) {
            return product(w, a).multiply(BigInteger.valueOf(beliefs[w]));
        }

        BigInteger weights(int a) {
            BigInteger sum = BigInteger.ZERO;
            for (int w = 0; w < ways.size(); w++) {
                sum = sum.add(weight(w, a));
            }
            return sum;
        }

        long odds(int w, int a, int what) {
            if (!isWay(w) || !isStall(a) || !in(what, 0, 1)) {
                return -1;
            }
            return bagsOf(a).size() > 6 || weights(a).signum() == 0 ? -2 : part(weight(w, a), weights(a), what);
        }

        int judged(int a) {
            if (!isStall(a)) {
                return -1;
            }
            if (bagsOf(a).size() > 6 || weights(a).signum() == 0) {
                return -2;
            }
            int best = ways.size() - 1;
            for (int w = best; w >= 0; w--) {
                best = weight(w, a).compareTo(weight(best, a)) >= 0 ? w : best;
            }
            return best;
        }

        int apart(int w, int o, int a, int sort) {
            if (!isWay(w) || !isWay(o) || !isStall(a) || !in(sort, 0, 3)) {
                return -1;
            }
            TreeMap<Integer, Integer> map = spread(w, a, sort);
            spread(o, a, sort).forEach((j, share) -> map.merge(j, -share, Integer::sum));
            return map.values().stream().mapToInt(Math::abs).sum();
        }

        int follow(int w, int o, int a) {
            if (!isWay(w) || !isWay(o) || !isStall(a)) {
                return -1;
            }
            int best = 3;
            for (int sort = 3; sort >= 0; sort--) {
                best = apart(w, o, a, sort) >= apart(w, o, a, best) ? sort : best;
            }
            return apart(w, o, a, best) == 0 ? -9 : best;
        }

        int bar(int k, int v) {
            if (!in(k, 0, 7) || !in(v, BAR_LEAST[k], BAR_MOST[k])) {
                return -1;
            }
            int was = bars[k];
            bars[k] = v;
            return was;
        }

        long[] costs(int n, int k) {
            long scale = (long) Math.pow(10, bars[7] - n);
            long honest = bars[2] * (long) Math.pow(bars[0], k) * (long) Math.pow(10 - bars[0], n - k);
            long other = bars[3] * (long) Math.pow(bars[1], k) * (long) Math.pow(10 - bars[1], n - k);
            long on = n == bars[7] ? Long.MAX_VALUE
                    : bars[6] * (honest + other) * scale + least(costs(n + 1, k + 1)) + least(costs(n + 1, k));
            return new long[] {bars[4] * honest * scale, bars[5] * other * scale, on};
        }

        static long least(long[] costs) {
            return Math.min(costs[0], Math.min(costs[1], costs[2]));
        }

        int done(int n, int k) {
            if (!in(n, 0, bars[7]) || !in(k, 0, n)) {
                return -1;
            }
            long[] costs = costs(n, k);
            return costs[0] == least(costs) ? 0 : costs[1] == least(costs) ? 1 : 2;
        }

        long cost(int n, int k) {
            return done(n, k) == -1 ? NO : least(costs(n, k));
        }

        int enough(int n) {
            if (!in(n, -1, bars[7])) {
                return -1;
            }
            int last = -9;
            for (int i = 0; i <= bars[7]; i++) {
                for (int k = i; k >= 0; k--) {
                    if (n == -1 ? done(i, k) == 2 : i == n && done(i, k) == 0) {
                        last = n == -1 ? i : k;
                    }
                }
            }
            return last;
        }

        long year(int a, int sales, int what) {
            if (!isStall(a) || !in(sales, 0, 9999) || !in(what, 0, 1) || bagsOf(a).isEmpty()) {
                return NO;
            }
            long sum = bagsOf(a).stream().mapToLong(b -> b.tooLittle > 0 ? b.tooLittle * stalls.get(a).price : 0).sum();
            return part(BigInteger.valueOf(sum * sales), BigInteger.valueOf(100L * bagsOf(a).size()), what);
        }

        long truly(int a, int what) {
            if (!isStall(a) || !in(what, 0, 1)) {
                return NO;
            }
            long told = bagsOf(a).stream().mapToLong(Bag::told).sum();
            long less = told - bagsOf(a).stream().mapToLong(Bag::tooLittle).sum();
            return less <= 0 ? NO : part(BigInteger.valueOf(told * stalls.get(a).price), BigInteger.valueOf(less), what);
        }

        int cheap() {
            int best = -9;
            for (int a = stalls.size() - 1; a >= 0; a--) {
                if (truly(a, 1) != NO && (best < 0 || truly(a, 0) * truly(best, 1) <= truly(best, 0) * truly(a, 1))) {
                    best = a;
                }
            }
            return best;
        }

        int favoured(int a) {
            if (!isStall(a)) {
                return -1;
            }
            int best = -9;
            for (int sort = 3; sort >= 0; sort--) {
                int s = sort;
                int t = best;
                long[] here = bagsOf(a).stream().filter(b -> b.sort == s).mapToLong(Bag::tooLittle).toArray();
                long[] there = bagsOf(a).stream().filter(b -> b.sort == t).mapToLong(Bag::tooLittle).toArray();
                if (here.length > 0 && (best < 0 || Arrays.stream(here).sum() * there.length <= Arrays.stream(there).sum() * here.length)) {
                    best = sort;
                }
            }
            return best;
        }

        long even(int a, int what) {
            if (!isStall(a) || !in(what, 0, 2)) {
                return -1;
            }
            int n = bagsOf(a).size();
            if (n > 18) {
                return -2;
            }
            int e = (int) bagsOf(a).stream().filter(b -> b.steps == 0).count();
            return what == 0 ? rows(n, e, luck[1]).longValueExact() : what == 1 ? BigInteger.TEN.pow(n).longValueExact() : e;
        }

        int trial(int a, int day, int lead, int read) {
            if (!isStall(a) || !in(day, 0, 365) || !in(lead, 1, 999) || !in(read, 0, 999)) {
                return -1;
            }
            if (trials.size() == 20) {
                return -3;
            }
            trials.add(new Trial(a, day, read - lead));
            return trialsOf(a).size();
        }

        long middle(int a) {
            if (!isStall(a) || trialsOf(a).isEmpty()) {
                return NO;
            }
            int[] offs = trialsOf(a).stream().mapToInt(Trial::off).sorted().toArray();
            return offs[offs.length % 2 == 1 ? offs.length / 2 : offs.length / 2 - 1];
        }

        /** By the pairs of TRIALS: the same fraction, as both of its numbers are sums over pairs. */
        long drift(int a, int what) {
            if (!isStall(a) || !in(what, 0, 1)) {
                return NO;
            }
            long upper = 0, lower = 0;
            List<Trial> all = trialsOf(a);
            for (int i = 0; i < all.size(); i++) {
                for (int j = 0; j < i; j++) {
                    long days = all.get(i).day - all.get(j).day;
                    upper += days * (all.get(i).off - all.get(j).off);
                    lower += days * days;
                }
            }
            return lower == 0 ? NO : part(BigInteger.valueOf(upper), BigInteger.valueOf(lower), what);
        }

        int lot(int v) {
            int was = lot;
            lot = v;
            return was;
        }

        int sales(int w, int a, int sort, int n) {
            if (!isWay(w) || !isStall(a) || !in(sort, 0, 3) || !in(n, 1, 200)) {
                return -1;
            }
            List<Integer> by = new ArrayList<>();
            spread(w, a, sort).forEach((j, share) -> by.addAll(java.util.Collections.nCopies(share, j)));
            steps = 0;
            int tooShort = 0;
            for (int i = 0; i < n; i++) {
                lot = (int) ((lot & 0xffffffffL) * 1103515245L + 12345L);
                int j = by.get((int) ((lot & 0xffffffffL) / 65536 % 600));
                steps += j;
                tooShort += j > 0 ? 1 : 0;
            }
            return tooShort;
        }

        long score(int kind, int b) {
            if (!in(kind, 0, 6) || !in(b, 0, bags.size() - 1)) {
                return NO;
            }
            Bag g = bags.get(b);
            trace += new long[] {1, 11, 101, 1001, 11001, 100001, 1100001}[kind];
            long s = g.tooLittle;
            return new long[] {s, s / 2, s - stalls.get(g.stall).step, 2 * s, 2 * s + g.sort, s + g.steps, s + g.steps - g.hour}[kind];
        }

        int keep(int i) {
            if (!in(i, 0, 1)) {
                return -1;
            }
            images[i] = new Image(List.copyOf(bags), List.copyOf(trials), looks, seldom, all, lot);
            return bags.size();
        }

        int back(int i) {
            if (!in(i, 0, 1)) {
                return -1;
            }
            if (images[i] == null) {
                return -2;
            }
            bags = new ArrayList<>(images[i].bags);
            trials = new ArrayList<>(images[i].trials);
            looks = images[i].looks;
            seldom = images[i].seldom;
            all = images[i].all;
            lot = images[i].lot;
            return bags.size();
        }

        int count(int what) {
            return !in(what, 0, 7) ? -1
                    : new int[] {stalls.size(), ways.size(), bags.size(), trials.size(), text.length(), luck[0], luck[1], luck[2]}[what];
        }
    }
}
