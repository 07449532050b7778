/**
 * An object in some state, made anew by its calls as often as it is needed. What it is like is told by
 * probes, rows of later calls; each probe has an object of its own, so that none comes near 512 calls.
 */
final class Stage {
    interface Call {
        long on(ThumbScale x);
    }

    interface Maker {
        ThumbScale make();
    }

    private interface Probe {
        void ask(ThumbScale x, StringBuilder answers);
    }

    private static final Probe[] PROBES = {Stage::market, Stage::often, Stage::bags, Stage::sums, Stage::enough, Stage::trials,
        Stage::rest, Stage::text, (x, s) -> image(x, s, 0), (x, s) -> image(x, s, 1)};

    private final Maker maker;
    private final String[] plain = new String[PROBES.length];

    Stage(Maker maker) {
        this.maker = maker;
    }

    ThumbScale make() {
        return maker.make();
    }

    Stage with(Call call) {
        return new Stage(() -> {
            ThumbScale x = make();
            call.on(x);
            return x;
        });
    }

    /** The first later call that is answered otherwise behind that call; null if none is. */
    String changedBy(Call call) {
        return differenceFrom(with(call));
    }

    String differenceFrom(Stage other) {
        for (int p = 0; p < PROBES.length; p++) {
            String here = answers(p);
            String there = other.answers(p);
            if (!here.equals(there)) {
                return firstDifference(here.split("\n"), there.split("\n"));
            }
        }
        return null;
    }

    private String answers(int p) {
        if (plain[p] == null) {
            StringBuilder s = new StringBuilder();
            PROBES[p].ask(make(), s);
            plain[p] = s.toString();
        }
        return plain[p];
    }

    private static String firstDifference(String[] here, String[] there) {
        for (int i = 0; i < Math.min(here.length, there.length); i++) {
            if (!here[i].equals(there[i])) {
                return here[i] + " is now " + there[i];
            }
        }
        return "the number of answers";
    }

    private static void put(StringBuilder s, String call, long answer) {
        s.append(call).append(" = ").append(answer).append('\n');
    }

    private static void counts(ThumbScale x, StringBuilder s) {
        for (int what = 0; what < 8; what++) {
            put(s, "count " + what, x.count(what));
        }
    }

    private static void market(ThumbScale x, StringBuilder s) {
        counts(x, s);
        for (int i = 0; i < 6; i++) {
            for (int what = 0; what < 5; what++) {
                put(s, "stall " + i + " " + what, x.stall(i, what));
            }
            for (int what = 0; what < 4; what++) {
                put(s, "way " + i + " " + what, x.way(i, what));
            }
        }
        for (int i = 0; i < 6; i++) {
            put(s, "judged " + i, x.judged(i));
            put(s, "odds of " + i, x.odds(i, 0, 0));
            put(s, "likely of " + i, x.likely(i, 0, 1));
        }
        for (int w = 0; w < 6; w++) {
            put(s, "belief " + w, x.belief(w, 9));
        }
    }

    private static void often(ThumbScale x, StringBuilder s) {
        for (int w = 0; w < 6; w++) {
            for (int sort = 0; sort < 4; sort++) {
                for (int j = -1; j < 4; j++) {
                    put(s, "often " + w + " to " + sort + " by " + j, x.often(w, 0, sort, j));
                }
            }
        }
    }

    private static void bags(ThumbScale x, StringBuilder s) {
        for (int b = 0; b < 30; b++) {
            for (int what = 0; what < 5; what++) {
                put(s, "about " + b + " " + what, x.about(b, what));
            }
        }
        put(s, "bag", x.bag(0, 1, 2, 30, 20, 1));
    }

    private static void sums(ThumbScale x, StringBuilder s) {
        for (int i = 0; i < 6; i++) {
            for (int what = 0; what < 2; what++) {
                put(s, "truly " + i + " " + what, x.truly(i, what));
                put(s, "year " + i + " " + what, x.year(i, 9999, what));
                put(s, "even " + i + " " + what, x.even(i, what));
            }
            put(s, "favoured " + i, x.favoured(i));
        }
        put(s, "cheap", x.cheap());
        for (int sort = 0; sort < 4; sort++) {
            put(s, "look at " + sort, x.look(-1, 0, 11, 1 << sort, 1, 1));
        }
    }

    private static void enough(ThumbScale x, StringBuilder s) {
        for (int n = 0; n <= 8; n++) {
            for (int k = 0; k <= n; k++) {
                put(s, "cost " + n + " " + k, x.cost(n, k));
                put(s, "done " + n + " " + k, x.done(n, k));
            }
        }
        for (int n = -1; n <= 8; n++) {
            put(s, "enough " + n, x.enough(n));
        }
        for (int k = 0; k < 8; k++) {
            put(s, "bar " + k, x.bar(k, 1));
        }
    }

    private static void trials(ThumbScale x, StringBuilder s) {
        for (int i = 0; i < 6; i++) {
            put(s, "middle " + i, x.middle(i));
            put(s, "drift " + i + " upper", x.drift(i, 0));
            put(s, "drift " + i + " lower", x.drift(i, 1));
        }
        put(s, "trial", x.trial(0, 365, 1, 999));
        put(s, "middle behind it", x.middle(0));
        put(s, "drift behind it", x.drift(0, 0));
    }

    private static void rest(ThumbScale x, StringBuilder s) {
        put(s, "trace", x.trace());
        put(s, "steps", x.steps());
        looks(x, s);
        put(s, "sales", x.sales(0, 0, 0, 5));
        put(s, "steps of these", x.steps());
        put(s, "lot", x.lot(5));
        put(s, "seldom", x.seldom(-1, 0, 2, 15, 0));
        looks(x, s);
    }

    private static void looks(ThumbScale x, StringBuilder s) {
        for (int what = 0; what < 3; what++) {
            put(s, "counted " + what, x.counted(what));
        }
    }

    /** More bytes end an item that THE TEXT may have begun: its bytes can be seen by no other call. */
    private static void text(ThumbScale x, StringBuilder s) {
        put(s, "market", x.market());
        put(s, "type", x.type('7' << 8 | ';', 2));
        put(s, "market behind it", x.market());
        counts(x, s);
        for (int what = 0; what < 4; what++) {
            put(s, "way 0 " + what, x.way(0, what));
        }
        put(s, "back behind it", x.back(0));
        put(s, "clear", x.clear());
    }

    private static void image(ThumbScale x, StringBuilder s, int image) {
        put(s, "back " + image, x.back(image));
        counts(x, s);
        looks(x, s);
        for (int b = 0; b < 30; b++) {
            put(s, "about " + b + " in image " + image, x.about(b, 3));
        }
        for (int i = 0; i < 6; i++) {
            put(s, "middle " + i + " in image " + image, x.middle(i));
            put(s, "drift " + i + " in image " + image, x.drift(i, 0));
        }
        put(s, "lot in image " + image, x.lot(0));
    }
}
