/** The objects that the boundary tests begin with. */
final class Scenes {
    /** Two STALLS, three WAYS, and something in every part that a call could change. */
    static final String TWO = "luck 1 6 3;stall 5 2 20;stall 10 0 7;way honest;way thumb 5 in 2 to old friend;way scale 9;";
    static final String SIX = "stall 1 0 0;stall 20 9 99;stall 5 1 10;stall 7 3 25;stall 2 0 3;stall 4 4 44;"
            + "way honest;way scale 1;way scale 99;way thumb 50 in 5;way thumb 7 in 1 to stranger;way round;";

    static final Stage FRESH = new Stage(ThumbScale::new);
    static final Stage BUSY = new Stage(Scenes::busy);
    static final Stage BRIM = new Stage(Scenes::brim);

    private Scenes() {
    }

    static void type(ThumbScale x, String text) {
        for (int at = 0; at < text.length(); at += 8) {
            int n = Math.min(8, text.length() - at);
            long v = 0;
            for (int i = 0; i < n; i++) {
                v = v << 8 | text.charAt(at + i);
            }
            x.type(v, n);
        }
    }

    static ThumbScale typed(String text) {
        ThumbScale x = new ThumbScale();
        type(x, text);
        return x;
    }

    /** What market() answers to a text on a new object. */
    static int read(String text) {
        return typed(text).market();
    }

    static ThumbScale of(String text) {
        ThumbScale x = typed(text);
        Check.holds("a market of \"" + text + "\"", x.market() >= 0);
        return x;
    }

    /** At a STALL a BAG that is short by so much, to a SORT, at an HOUR. */
    static int bag(ThumbScale x, int stall, int hour, int sort, int tooLittle) {
        return x.bag(stall, hour, sort, 500, 500 - tooLittle, 0);
    }

    static Stage busyWith(String text) {
        return BUSY.with(x -> {
            x.clear();
            type(x, text);
            return 0;
        });
    }

    private static ThumbScale busy() {
        ThumbScale x = of(TWO);
        x.lot(77);
        x.bag(0, 2, 0, 100, 90, 0);
        x.trial(0, 3, 100, 104);
        x.seldom(0, 0, 11, 15, 1);
        x.keep(0);
        x.bag(0, 5, 1, 60, 60, 10);
        x.bag(1, 11, 3, 80, 90, 99);
        x.bag(1, 0, 2, 999, 950, 5);
        x.trial(1, 100, 50, 51);
        x.trial(1, 200, 50, 49);
        x.trial(0, 9, 100, 99);
        x.seldom(-1, 0, 11, 7, 1);
        x.lot(-78);
        x.keep(1);
        x.bag(0, 7, 2, 50, 45, 3);
        x.seldom(0, 0, 11, 15, 0);
        x.belief(1, 4);
        x.belief(2, 0);
        x.bar(0, 3);
        x.bar(6, 2);
        x.bar(7, 4);
        x.sales(1, 0, 0, 9);
        x.score(4, 0);
        type(x, "way scale 1");
        return x;
    }

    /** Full of all: six STALLS and WAYS, 30 BAGS, 20 TRIALS, 400 bytes, both IMAGES. */
    private static ThumbScale brim() {
        ThumbScale x = of(SIX);
        for (int b = 0; b < 30; b++) {
            x.bag(b % 6, b % 12, b % 4, 100 + b, 90 + 2 * (b % 7), b);
        }
        x.keep(0);
        for (int t = 0; t < 20; t++) {
            x.trial(t % 6, 18 * t, 100, 95 + t % 11);
        }
        x.seldom(2, 0, 11, 15, 1);
        x.keep(1);
        x.sales(3, 4, 0, 20);
        x.score(6, 29);
        x.bar(7, 8);
        type(x, " ".repeat(395) + "way h");
        return x;
    }
}
