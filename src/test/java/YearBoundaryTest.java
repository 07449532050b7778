/** The boundary cases of promises 23 to 38: YEAR, TRUE prices, EVEN, TRIALS, LOTS, KINDS, IMAGES, COUNTS. */
public final class YearBoundaryTest {
    private static final int BAD = Check.BAD;
    private static final int STATE = Check.STATE;
    private static final int FULL = Check.FULL;
    private static final int NONE = Check.NONE;
    private static final long NO = Check.NO;
    private static final int LEAST = Check.LEAST;
    private static final int MOST = Check.MOST;
    private static final int LOT_TIMES = 1103515245;
    private static final int LOT_MORE = 12345;

    public static void main(String[] args) {
        yearOfShorts();
        yearEdges();
        yearRefused();
        trueOfNothing();
        trueEdges();
        trueRefused();
        cheapOfSeveral();
        favouredOfSeveral();
        favouredRefused();
        evenOfNone();
        evenOfEighteen();
        evenRefused();
        trialNumbers();
        trialRefused();
        trialsFull();
        lowerMiddle();
        middleRefused();
        driftOfOneDay();
        driftEdges();
        driftRefused();
        lotOfAnyNumber();
        lotWraps();
        drawsAtTheEdges();
        salesAtMost();
        salesRefused();
        stepsOfTheLatest();
        scoreTowardZero();
        scoreRefused();
        keepRefused();
        keepAgain();
        backRefused();
        backOfAll();
        nothingElseKept();
        countRefused();
        traceOfBodies();
        Check.end("YearBoundaryTest");
    }

    private static void yearOfShorts() {
        Check.sentence(23, "of its BAGS that are SHORT by more than 0 these SHORTS times PRICE, added, times SALES, "
                + "by 100 times its BAGS: a fraction.");
        ThumbScale x = Scenes.of("stall 1 0 10;stall 1 0 10;");
        Scenes.bag(x, 0, 0, 0, 0);
        Check.is("0 is not more than 0", x.year(0, 10, 0), 0);
        Check.is("0 by 1", x.year(0, 10, 1), 1);
        Scenes.bag(x, 0, 0, 0, -5);
        Check.is("-5 takes nothing away", x.year(0, 10, 0), 0);
        Scenes.bag(x, 0, 0, 0, 1);
        // 1 * 10 * 10 by 300
        Check.is("1, of 3 BAGS", x.year(0, 10, 0), 1);
        Check.is("1, of 3 BAGS", x.year(0, 10, 1), 3);
        Scenes.bag(x, 1, 0, 0, 400);
        Check.is("of another", x.year(0, 10, 1), 3);
    }

    private static void yearEdges() {
        Check.sentence(23, "YEAR of a STALL with so many SALES (0 .. 9999)");
        ThumbScale x = Scenes.of("stall 1 0 99;stall 1 0 0;stall 1 0 1;");
        for (int b = 0; b < 28; b++) {
            x.bag(0, 0, 0, 999, 0, 0);
        }
        x.bag(1, 0, 0, 999, 0, 0);
        x.bag(2, 0, 0, 999, 998, 0);
        Check.is("the most", x.year(0, 9999, 0), 988911099L);
        Check.is("the most by 100", x.year(0, 9999, 1), 100);
        Check.is("no SALES", x.year(0, 0, 0), 0);
        Check.is("no SALES", x.year(0, 0, 1), 1);
        Check.is("one of the SALES", x.year(2, 1, 0), 1);
        Check.is("one of the SALES", x.year(2, 1, 1), 100);
        Check.is("9999", x.year(2, 9999, 0), 9999);
        Check.is("100", x.year(2, 100, 1), 1);
        Check.is("for no PRICE", x.year(1, 9999, 0), 0);
        Check.is("for no PRICE", x.year(1, 9999, 1), 1);
    }

    private static void yearRefused() {
        Check.sentence(23, "YEAR: upper (what = 0), lower number (1), in least terms. NO: BAD, or no BAGS.");
        Stage noBags = new Stage(() -> {
            ThumbScale x = Scenes.of(Scenes.TWO);
            Scenes.bag(x, 1, 0, 0, 5);
            return x;
        });
        Check.refused(noBags, "no BAGS", NO, x -> x.year(0, 1, 0));
        Check.refused(noBags, "no BAGS", NO, x -> x.year(0, 0, 1));
        for (int wrong : new int[] {-1, 2, LEAST, MOST}) {
            Check.refused(Scenes.BUSY, "stall " + wrong, NO, x -> x.year(wrong, 1, 0));
            Check.refused(Scenes.BUSY, "what " + wrong, NO, x -> x.year(0, 1, wrong));
        }
        for (int wrong : new int[] {-1, 10000, LEAST, MOST}) {
            Check.refused(Scenes.BUSY, "sales " + wrong, NO, x -> x.year(0, wrong, 0));
        }
        Check.refused(Scenes.FRESH, "nothing told", NO, x -> x.year(0, 1, 0));
    }

    private static Stage soldFor(int... shorts) {
        return new Stage(() -> {
            ThumbScale x = Scenes.of("stall 1 9 7;");
            for (int tooLittle : shorts) {
                x.bag(0, 0, 0, 10, 10 - tooLittle, 0);
            }
            return x;
        });
    }

    private static void trueOfNothing() {
        Check.sentence(24, "TRUE: its PRICE times what was TOLD of all its BAGS by that less all SHORTS (STATE: that is 0 or less): a fraction.");
        for (int what = 0; what < 2; what++) {
            int w = what;
            Check.refused(soldFor(10), "all is short: 0", NO, x -> x.truly(0, w));
            Check.refused(soldFor(10, 10), "all is short twice: 0", NO, x -> x.truly(0, w));
            Check.refused(soldFor(), "no BAGS", NO, x -> x.truly(0, w));
        }
        Check.is("just 1", soldFor(9).make().truly(0, 0), 70);
        Check.is("just 1", soldFor(9).make().truly(0, 1), 1);
        Check.is("1 of 20", soldFor(10, 9).make().truly(0, 0), 140);
        Check.is("less than none is short", soldFor(-10).make().truly(0, 0), 7);
        Check.is("less than none is short", soldFor(-10).make().truly(0, 1), 2);
        // a SHORT can't be above what was TOLD, so below 0 it never comes
        ThumbScale x = soldFor(10).make();
        x.bag(0, 0, 0, 5, 4, 0);
        Check.is("7 * 15 by 4", x.truly(0, 0), 105);
        Check.is("7 * 15 by 4", x.truly(0, 1), 4);
    }

    private static void trueEdges() {
        Check.sentence(24, "TRUE: upper (what = 0), lower number (1), in least terms. NO: BAD, STATE, or no BAGS.");
        ThumbScale x = Scenes.of("stall 1 9 99;stall 1 0 0;");
        for (int b = 0; b < 29; b++) {
            x.bag(0, 0, 0, 999, b == 0 ? 1 : 0, 0);
        }
        x.bag(1, 0, 0, 999, 998, 99);
        Check.is("the most", x.truly(0, 0), 99L * 999 * 29);
        Check.is("the most by 1", x.truly(0, 1), 1);
        Check.is("for nothing", x.truly(1, 0), 0);
        Check.is("for nothing by 1", x.truly(1, 1), 1);
        ThumbScale dried = Scenes.of("stall 1 9 99;");
        for (int b = 0; b < 30; b++) {
            dried.bag(0, 0, 0, 1, 999, 99);
        }
        // 99 * 30 by 30 + 30 * (998 + 89)
        Check.is("the least", dried.truly(0, 0), 99);
        Check.is("the least", dried.truly(0, 1), 1088);
    }

    private static void trueRefused() {
        Check.sentence(24, "NO: BAD, STATE, or no BAGS.");
        for (int wrong : new int[] {-1, 2, LEAST, MOST}) {
            Check.refused(Scenes.BUSY, "stall " + wrong, NO, x -> x.truly(wrong, 0));
            Check.refused(Scenes.BUSY, "what " + wrong, NO, x -> x.truly(0, wrong));
        }
        Check.refused(Scenes.FRESH, "nothing told", NO, x -> x.truly(0, 0));
        Check.refused(Scenes.BRIM, "stall 6", NO, x -> x.truly(6, 0));
    }

    private static void cheapOfSeveral() {
        Check.sentence(25, "CHEAP: the STALL with the least TRUE price, of several the first; NONE.");
        Check.is("no STALLS", new ThumbScale().cheap(), NONE);
        ThumbScale x = Scenes.of("stall 1 0 5;".repeat(6));
        Check.is("no BAGS", x.cheap(), NONE);
        x.bag(0, 0, 0, 10, 0, 0);
        Check.is("nothing in it", x.cheap(), NONE);
        for (int i = 5; i >= 0; i--) {
            x.bag(i, 0, 0, 10, 10, 0);
            Check.is("of several the first", x.cheap(), i == 0 ? 1 : i);
        }
        x.bag(3, 0, 0, 999, 999, 0);
        Check.is("the same by more BAGS", x.cheap(), 1);
        x.bag(3, 0, 0, 999, 998, 0);
        Check.is("one grain less", x.cheap(), 1);
        x.bag(4, 0, 0, 1, 2, 0);
        Check.is("one grain more", x.cheap(), 4);
        ThumbScale first = Scenes.of("stall 1 0 5;".repeat(6));
        for (int i = 5; i >= 0; i--) {
            first.bag(i, 0, 0, 10, 9, 0);
        }
        Check.is("of all six the first", first.cheap(), 0);
        ThumbScale close = Scenes.of("stall 1 0 99;stall 1 0 99;");
        close.bag(0, 0, 0, 998, 999, 0);
        close.bag(1, 0, 0, 997, 998, 0);
        // 998 by 999, 997 by 998
        Check.is("hardly less", close.cheap(), 1);
        ThumbScale free = Scenes.of("stall 1 0 1;stall 1 0 0;stall 1 0 0;");
        free.bag(0, 0, 0, 1, 999, 0);
        free.bag(2, 0, 0, 999, 1, 0);
        Check.is("for nothing", free.cheap(), 2);
        free.bag(1, 0, 0, 999, 0, 0);
        Check.is("for nothing, but nothing in it", free.cheap(), 2);
        Check.holds("cheap changes nothing", Scenes.BUSY.changedBy(ThumbScale::cheap) == null);
    }

    private static void favouredOfSeveral() {
        Check.sentence(26, "FAVOURED at a STALL: the SORT with the least SHORT in the mean (of those who have BAGS), of several the first; NONE.");
        ThumbScale x = Scenes.of("stall 1 0 0;stall 1 0 0;");
        Check.is("no BAGS", x.favoured(0), NONE);
        Scenes.bag(x, 1, 0, 0, -9);
        Check.is("BAGS of another alone", x.favoured(0), NONE);
        for (int sort = 3; sort >= 0; sort--) {
            Scenes.bag(x, 0, 0, sort, 400);
            Check.is("of several the first", x.favoured(0), sort);
        }
        Scenes.bag(x, 0, 0, 2, 399);
        Check.is("a half less in the mean", x.favoured(0), 2);
        Scenes.bag(x, 0, 0, 2, 401);
        Check.is("the same in the mean", x.favoured(0), 0);
        Scenes.bag(x, 0, 0, 3, 1);
        Scenes.bag(x, 0, 0, 1, -1);
        Check.is("below 0", x.favoured(0), 1);
        ThumbScale means = Scenes.of("stall 1 0 0;");
        Scenes.bag(means, 0, 0, 0, -3);
        Scenes.bag(means, 0, 0, 0, -4);
        Scenes.bag(means, 0, 0, 1, -4);
        Check.is("-4 is less than -7 by 2", means.favoured(0), 1);
        Scenes.bag(means, 0, 0, 3, -4);
        Scenes.bag(means, 0, 0, 3, -4);
        Check.is("-8 by 2 is the same", means.favoured(0), 1);
        ThumbScale none = Scenes.of("stall 1 0 0;");
        Scenes.bag(none, 0, 0, 3, 499);
        Check.is("those without BAGS are not less", none.favoured(0), 3);
    }

    private static void favouredRefused() {
        Check.sentence(26, "FAVOURED; NONE. BAD.");
        for (int wrong : new int[] {-1, 2, LEAST, MOST}) {
            Check.refused(Scenes.BUSY, "stall " + wrong, BAD, x -> x.favoured(wrong));
        }
        Check.refused(Scenes.FRESH, "nothing told", BAD, x -> x.favoured(0));
        Check.refused(Scenes.BRIM, "stall 6", BAD, x -> x.favoured(6));
    }

    private static void evenOfNone() {
        Check.sentence(27, "EVEN: rows (what = 0), ALL (1), e (2). -1: BAD; -2: STATE.");
        ThumbScale x = Scenes.of("luck 5 0 5;stall 4 0 0;stall 4 0 0;");
        Check.is("rows of no BAGS", x.even(0, 0), 1);
        Check.is("ALL of no BAGS", x.even(0, 1), 1);
        Check.is("e of no BAGS", x.even(0, 2), 0);
        Scenes.bag(x, 0, 0, 0, 2);
        Scenes.bag(x, 0, 0, 0, -3);
        Check.is("halves: none is just", x.even(0, 2), 0);
        Check.is("none is just: all rows", x.even(0, 0), 100);
        Scenes.bag(x, 0, 0, 0, 1);
        Check.is("1 by 4 is just", x.even(0, 2), 1);
        Scenes.bag(x, 0, 0, 0, -2);
        Check.is("-2 by 4 is just", x.even(0, 2), 2);
        Check.is("never JUST: no rows", x.even(0, 0), 0);
        ThumbScale always = Scenes.of("luck 0 10 0;stall 4 0 0;");
        Scenes.bag(always, 0, 0, 0, 0);
        Check.is("always JUST: all rows", always.even(0, 0), 10);
    }

    private static void evenOfEighteen() {
        Check.sentence(27, "EVEN: of a STALL's n BAGS (18 at most, else STATE) e are just (STEPS 0): "
                + "of ALL 10 to the n in how many as many or more are by honest weighings.");
        ThumbScale x = Scenes.of("luck 2 6 2;stall 1 0 0;stall 1 0 0;");
        long all = 1;
        long just = 1;
        for (int n = 1; n <= 18; n++) {
            Scenes.bag(x, 0, 0, n % 4, 0);
            all *= 10;
            just *= 6;
            Check.is("rows of " + n, x.even(0, 0), just);
            Check.is("ALL of " + n, x.even(0, 1), all);
            Check.is("e of " + n, x.even(0, 2), n);
        }
        Scenes.bag(x, 1, 0, 0, 0);
        Check.is("18, and one of another", x.even(0, 0), just);
        Check.is("of the other", x.even(1, 0), 6);
        Stage nineteen = new Stage(() -> {
            ThumbScale y = Scenes.of("stall 1 0 0;stall 1 0 0;way honest;");
            for (int b = 0; b < 19; b++) {
                Scenes.bag(y, 1, 0, 0, 1);
            }
            return y;
        });
        for (int what = 0; what < 3; what++) {
            int w = what;
            Check.refused(nineteen, "19, what " + what, STATE, y -> y.even(1, w));
        }
        Check.refused(nineteen, "BAD ahead of STATE", BAD, y -> y.even(1, 3));
        Check.is("the other of 19", nineteen.make().even(0, 1), 1);
        Check.holds("even is no LOOK", Scenes.BUSY.changedBy(y -> y.even(0, 0)) == null);
    }

    private static void evenRefused() {
        Check.sentence(27, "-1: BAD; -2: STATE.");
        for (int wrong : new int[] {-1, 2, LEAST, MOST}) {
            Check.refused(Scenes.BUSY, "stall " + wrong, BAD, x -> x.even(wrong, 0));
        }
        for (int wrong : new int[] {-1, 3, LEAST, MOST}) {
            Check.refused(Scenes.BUSY, "what " + wrong, BAD, x -> x.even(0, wrong));
        }
        Check.refused(Scenes.FRESH, "nothing told", BAD, x -> x.even(0, 0));
    }

    private static void trialNumbers() {
        Check.sentence(28, "a DAY 0 .. 365, a lead of 1 .. 999 grains, what it read 0 .. 999: OFF: the reading less the lead.");
        ThumbScale x = Scenes.of("stall 1 0 0;stall 1 0 0;");
        Check.is("the least OFF", x.trial(0, 0, 999, 0), 1);
        Check.is("its MIDDLE", x.middle(0), -999);
        Check.is("the greatest OFF", x.trial(1, 365, 1, 999), 1);
        Check.is("its MIDDLE", x.middle(1), 998);
        Check.is("all at least", x.trial(0, 0, 1, 0), 2);
        Check.is("all at most", x.trial(1, 365, 999, 999), 2);
        Check.is("MIDDLE of -999, -1", x.middle(0), -999);
        Check.is("MIDDLE of 0, 998", x.middle(1), 0);
    }

    private static void trialRefused() {
        Check.sentence(28, "A TRIAL: how many there are of that STALL. BAD; FULL.");
        for (Stage stage : new Stage[] {Scenes.BUSY, Scenes.BRIM}) {
            int stalls = stage.make().count(0);
            for (int wrong : new int[] {-1, stalls, LEAST, MOST}) {
                Check.refused(stage, "stall " + wrong, BAD, x -> x.trial(wrong, 5, 5, 5));
            }
            for (int wrong : new int[] {-1, 366, LEAST, MOST}) {
                Check.refused(stage, "day " + wrong, BAD, x -> x.trial(0, wrong, 5, 5));
            }
            for (int wrong : new int[] {-1, 0, 1000, LEAST, MOST}) {
                Check.refused(stage, "lead " + wrong, BAD, x -> x.trial(0, 5, wrong, 5));
            }
            for (int wrong : new int[] {-1, 1000, LEAST, MOST}) {
                Check.refused(stage, "read " + wrong, BAD, x -> x.trial(0, 5, 5, wrong));
            }
        }
        Check.refused(Scenes.FRESH, "no stall", BAD, x -> x.trial(0, 5, 5, 5));
    }

    private static void trialsFull() {
        Check.sentence(28, "TRIALS (20 at most) of a STALL's scale");
        ThumbScale x = Scenes.of(Scenes.SIX);
        for (int t = 0; t < 20; t++) {
            Check.is("trial " + t, x.trial(t % 2, t, 10, 10 + t), t / 2 + 1);
        }
        Check.is("TRIALS", x.count(3), 20);
        Check.is("the 21st", x.trial(0, 0, 10, 10), FULL);
        Check.is("of a STALL without TRIALS", x.trial(5, 0, 10, 10), FULL);
        Check.is("TRIALS stay", x.count(3), 20);
        Check.is("TRIALS of the first", x.stall(0, 4), 10);
        Check.is("MIDDLE of the first", x.middle(0), 8);
        Check.refused(Scenes.BRIM, "a 21st", FULL, y -> y.trial(0, 5, 5, 5));
        Check.is("room by an IMAGE", Scenes.BRIM.with(y -> y.back(0)).make().trial(0, 5, 5, 5), 1);
        Check.is("none by an IMAGE", Scenes.BRIM.with(y -> y.back(1)).make().trial(0, 5, 5, 5), FULL);
    }

    private static void lowerMiddle() {
        Check.sentence(29, "MIDDLE: the lower middle of all OFFS in order.");
        // OFFS out of order, some of them twice: of m of them the middle is told by counting
        int[] jumbled = {9, -3, 14, 0, 9, -8, 7, 2, 18, -1, 5, 5, -12, 30, 4, 1, 9, -3, 8, 6};
        ThumbScale x = Scenes.of("stall 1 0 0;");
        for (int m = 1; m <= 20; m++) {
            x.trial(0, m, 100, 100 + jumbled[m - 1]);
            long middle = x.middle(0);
            int below = 0;
            int upTo = 0;
            for (int t = 0; t < m; t++) {
                below += jumbled[t] < middle ? 1 : 0;
                upTo += jumbled[t] <= middle ? 1 : 0;
            }
            // it is the one at (m + 1) / 2, rounded down, from 1 on
            Check.holds("of " + m + " not " + middle, below < (m + 1) / 2 && upTo >= (m + 1) / 2);
        }
        ThumbScale few = Scenes.of("stall 1 0 0;");
        int[] reads = {105, 101, 103, 107};
        int[] due = {5, 1, 3, 3};
        for (int t = 0; t < 4; t++) {
            few.trial(0, t, 100, reads[t]);
            Check.is("of " + (t + 1), few.middle(0), due[t]);
        }
    }

    private static void middleRefused() {
        Check.sentence(29, "MIDDLE. NO: BAD, or no TRIALS.");
        Stage other = new Stage(() -> {
            ThumbScale x = Scenes.of(Scenes.TWO);
            x.trial(1, 5, 5, 9);
            return x;
        });
        Check.refused(other, "no TRIALS", NO, x -> x.middle(0));
        Check.is("of the other", other.make().middle(1), 4);
        for (int wrong : new int[] {-1, 2, LEAST, MOST}) {
            Check.refused(Scenes.BUSY, "stall " + wrong, NO, x -> x.middle(wrong));
        }
        Check.refused(Scenes.FRESH, "nothing told", NO, x -> x.middle(0));
    }

    private static void driftOfOneDay() {
        Check.sentence(30, "a fraction, the lower number above 0 (STATE: that is 0, or no TRIALS).");
        for (int trials = 0; trials <= 20; trials++) {
            int m = trials;
            for (int day : new int[] {0, 365}) {
                Stage oneDay = new Stage(() -> {
                    ThumbScale x = Scenes.of(Scenes.TWO);
                    for (int t = 0; t < m; t++) {
                        x.trial(0, day, 100, 90 + t);
                    }
                    return x;
                });
                Check.refused(oneDay, m + " TRIALS of day " + day, NO, x -> x.drift(0, 0));
                Check.refused(oneDay, m + " TRIALS of day " + day, NO, x -> x.drift(0, 1));
            }
        }
        ThumbScale x = Scenes.of(Scenes.TWO);
        x.trial(0, 0, 100, 100);
        x.trial(1, 365, 100, 200);
        Check.is("another day of another STALL", x.drift(0, 0), NO);
        x.trial(0, 1, 100, 100);
        Check.is("two days: 0", x.drift(0, 0), 0);
        Check.is("two days: by 1", x.drift(0, 1), 1);
    }

    private static void driftEdges() {
        Check.sentence(30, "DRIFT a DAY by least squares: m times all DAYS times OFFS added, less DAYS added times OFFS added, "
                + "by m times all squares of DAYS added, less the square of DAYS added");
        ThumbScale down = Scenes.of("stall 1 0 0;");
        down.trial(0, 0, 1, 999);
        down.trial(0, 1, 999, 0);
        Check.is("the steepest", down.drift(0, 0), -1997);
        Check.is("the steepest", down.drift(0, 1), 1);
        ThumbScale later = Scenes.of("stall 1 0 0;");
        later.trial(0, 365, 999, 0);
        later.trial(0, 364, 1, 999);
        Check.is("the later one first", later.drift(0, 0), -1997);
        ThumbScale slow = Scenes.of("stall 1 0 0;");
        slow.trial(0, 0, 10, 10);
        slow.trial(0, 365, 10, 9);
        Check.is("hardly down", slow.drift(0, 0), -1);
        Check.is("hardly down", slow.drift(0, 1), 365);
        ThumbScale most = Scenes.of("stall 1 0 0;");
        for (int t = 0; t < 20; t++) {
            most.trial(0, t < 10 ? 0 : 365, t < 10 ? 999 : 1, t < 10 ? 0 : 999);
        }
        Check.is("twenty at the ends", most.drift(0, 0), 1997);
        Check.is("twenty at the ends", most.drift(0, 1), 365);
        ThumbScale three = Scenes.of("stall 1 0 0;");
        three.trial(0, 1, 10, 11);
        three.trial(0, 2, 10, 11);
        three.trial(0, 4, 10, 12);
        // 3 * 11 - 7 * 4 by 3 * 21 - 49
        Check.is("5 by 14", three.drift(0, 0), 5);
        Check.is("5 by 14", three.drift(0, 1), 14);
    }

    private static void driftRefused() {
        Check.sentence(30, "DRIFT: upper (what = 0), lower number (1). NO: BAD, STATE.");
        for (int wrong : new int[] {-1, 2, LEAST, MOST}) {
            Check.refused(Scenes.BUSY, "stall " + wrong, NO, x -> x.drift(wrong, 0));
            Check.refused(Scenes.BUSY, "what " + wrong, NO, x -> x.drift(0, wrong));
        }
        Check.refused(Scenes.FRESH, "nothing told", NO, x -> x.drift(0, 0));
    }

    private static void lotOfAnyNumber() {
        Check.sentence(31, "THE LOT becomes v: what it was.");
        ThumbScale x = new ThumbScale();
        int was = 1;
        for (int v : new int[] {0, -1, LEAST, MOST, -9, 1}) {
            Check.is("THE LOT", x.lot(v), was);
            was = v;
        }
        Check.same("THE LOT as it was", Scenes.BUSY, Scenes.BUSY.with(y -> y.lot(y.lot(5))));
    }

    /** The LOT from which THE LOT goes on to that one: LOT_TIMES is odd, so there is just one. */
    private static int aheadOf(int lot) {
        int inverse = LOT_TIMES;
        for (int turn = 0; turn < 5; turn++) {
            inverse *= 2 - LOT_TIMES * inverse;
        }
        return (lot - LOT_MORE) * inverse;
    }

    private static void lotWraps() {
        Check.sentence(32, "THE LOT goes on (times 1103515245 and 12345, wrapped; DRAW: its upper 16 bits, 0 .. 65535, left over by 600)");
        ThumbScale x = Scenes.of("luck 3 5 2;stall 1 0 0;way honest;");
        for (int goesOnTo : new int[] {0, 1, -1, LEAST, MOST, 65535, 65536, -65536, -65537}) {
            x.lot(aheadOf(goesOnTo));
            x.sales(0, 0, 0, 1);
            Check.is("goes on", x.lot(0), goesOnTo);
        }
        x.lot(LEAST);
        x.sales(0, 0, 0, 1);
        Check.is("from the least", x.lot(MOST), LEAST + LOT_MORE);
        x.sales(0, 0, 0, 1);
        Check.is("from the greatest", x.lot(0), (int) ((2147483647L * LOT_TIMES + LOT_MORE) & 0xffffffffL));
        long lot = 0;
        for (int i = 0; i < 200; i++) {
            lot = (lot * LOT_TIMES + LOT_MORE) % 4294967296L;
        }
        x.sales(0, 0, 0, 200);
        Check.is("200 times", x.lot(0), (int) lot);
    }

    private static void drawsAtTheEdges() {
        Check.sentence(32, "j from the least on, as often as HOW OFTEN tells.");
        // honest: -1 to 179, 0 to 479, 1 to 599
        ThumbScale x = Scenes.of("luck 3 5 2;stall 1 0 0;way honest;way thumb 99 in 5;way round;");
        int[] upper = {0, 179, 180, 479, 480, 599, 600, 779, 780, 32767, 32768, 65535, 65399, 65400};
        int[] due = {-1, -1, 0, 0, 1, 1, -1, -1, 0, 0, 0, -1, 1, -1};
        for (int i = 0; i < upper.length; i++) {
            for (int low : new int[] {0, 65535}) {
                x.lot(aheadOf(upper[i] << 16 | low));
                Check.is("short by " + upper[i], x.sales(0, 0, 0, 1), due[i] >= 1 ? 1 : 0);
                Check.is("STEPS by " + upper[i], x.steps(), due[i]);
            }
        }
        // one in five of 180, 300, 120 by 99 more, the rest honest: 144, 240, 96, then 36, 60, 24
        int[] ends = {144, 384, 480, 516, 576, 600};
        int[] steps = {-1, 0, 1, 98, 99, 100};
        int begin = 0;
        for (int i = 0; i < 6; i++) {
            for (int draw : new int[] {begin, ends[i] - 1}) {
                x.lot(aheadOf(draw << 16));
                Check.is("thumb at " + draw, x.sales(1, 0, 0, 1), steps[i] >= 1 ? 1 : 0);
                Check.is("STEPS of a thumb at " + draw, x.steps(), steps[i]);
            }
            begin = ends[i];
        }
        for (int draw : new int[] {0, 479, 480, 599}) {
            x.lot(aheadOf(draw << 16));
            Check.is("round at " + draw, x.sales(2, 0, 0, 1), draw >= 480 ? 1 : 0);
            Check.is("STEPS of round at " + draw, x.steps(), draw >= 480 ? 1 : 0);
        }
    }

    private static void salesAtMost() {
        Check.sentence(32, "SALES by THE LOT, by a WAY at a STALL to a SORT, n times (1 .. 200)");
        ThumbScale x = Scenes.of("luck 0 0 10;stall 1 0 0;way scale 99;way thumb 99 in 1 to stranger;");
        Check.is("one", x.sales(0, 0, 0, 1), 1);
        Check.is("STEPS of one", x.steps(), 100);
        Check.is("200", x.sales(0, 0, 0, 200), 200);
        Check.is("STEPS of 200", x.steps(), 20000);
        Check.is("200 to a stranger", x.sales(1, 0, 3, 200), 200);
        Check.is("STEPS to a stranger", x.steps(), 20000);
        Check.is("200 to another", x.sales(1, 0, 2, 200), 200);
        Check.is("STEPS to another", x.steps(), 200);
        ThumbScale less = Scenes.of("luck 10 0 0;stall 1 0 0;way honest;way round;");
        Check.is("never short", less.sales(0, 0, 0, 200), 0);
        Check.is("STEPS below 0", less.steps(), -200);
        Check.is("round is never short here", less.sales(1, 0, 0, 200), 0);
        Check.is("STEPS of round", less.steps(), 0);
        ThumbScale just = Scenes.of("luck 0 10 0;stall 20 0 0;way honest;way scale 20;");
        Check.is("0 STEPS are not short", just.sales(0, 0, 0, 200), 0);
        Check.is("1 STEP is short", just.sales(1, 0, 0, 200), 200);
    }

    private static void salesRefused() {
        Check.sentence(32, "SALES by THE LOT: how many are short. BAD.");
        for (int wrong : new int[] {-1, 3, LEAST, MOST}) {
            Check.refused(Scenes.BUSY, "way " + wrong, BAD, x -> x.sales(wrong, 0, 0, 9));
        }
        for (int wrong : new int[] {-1, 2, LEAST, MOST}) {
            Check.refused(Scenes.BUSY, "stall " + wrong, BAD, x -> x.sales(0, wrong, 0, 9));
        }
        for (int wrong : new int[] {-1, 4, LEAST, MOST}) {
            Check.refused(Scenes.BUSY, "sort " + wrong, BAD, x -> x.sales(0, 0, wrong, 9));
        }
        for (int wrong : new int[] {-1, 0, 201, LEAST, MOST}) {
            Check.refused(Scenes.BUSY, "n " + wrong, BAD, x -> x.sales(0, 0, 0, wrong));
        }
        Check.refused(Scenes.FRESH, "nothing told", BAD, x -> x.sales(0, 0, 0, 1));
    }

    private static void stepsOfTheLatest() {
        Check.sentence(33, "All STEPS of the latest SALES by THE LOT, added; 0 ahead of any.");
        Check.is("ahead of any", new ThumbScale().steps(), 0);
        ThumbScale x = Scenes.of("luck 0 0 10;stall 1 0 0;way honest;");
        Check.is("ahead of any", x.steps(), 0);
        x.sales(0, 0, 0, 0);
        Check.is("a refused one is none", x.steps(), 0);
        x.sales(0, 0, 0, 5);
        x.sales(0, 0, 0, 3);
        Check.is("the latest alone", x.steps(), 3);
        x.sales(0, 0, 0, 201);
        Check.is("a refused one is not the latest", x.steps(), 3);
        Check.is("asked again", x.steps(), 3);
    }

    private static void scoreTowardZero() {
        Check.sentence(34, "HONEST half of up, toward 0 (10).");
        ThumbScale x = Scenes.of("stall 20 9 0;");
        int[] shorts = {0, 1, -1, 2, -2, 3, -3, 499, -499};
        int[] halves = {0, 0, 0, 1, -1, 1, -1, 249, -249};
        for (int i = 0; i < shorts.length; i++) {
            int b = Scenes.bag(x, 0, 11, 3, shorts[i]);
            Check.is("HONEST of " + shorts[i], x.score(1, b), halves[i]);
            Check.is("SCALE of " + shorts[i], x.score(2, b), shorts[i] - 20);
            Check.is("THUMB of " + shorts[i], x.score(3, b), 2 * shorts[i]);
            Check.is("CHOOSE of " + shorts[i], x.score(4, b), 2 * shorts[i] + 3);
            Check.is("TOLD of " + shorts[i], x.score(6, b), x.score(5, b) - 11);
        }
        ThumbScale most = Scenes.of("stall 1 9 0;");
        most.bag(0, 11, 3, 1, 999, 99);
        most.bag(0, 0, 0, 999, 0, 0);
        long[] least = {-1087, -543, -1088, -2174, -2171, -2174, -2185};
        long[] greatest = {999, 499, 998, 1998, 1998, 1998, 1998};
        for (int kind = 0; kind < 7; kind++) {
            Check.is("the least as " + kind, most.score(kind, 0), least[kind]);
            Check.is("the greatest as " + kind, most.score(kind, 1), greatest[kind]);
        }
    }

    private static void scoreRefused() {
        Check.sentence(34, "SCORE. NO: BAD.");
        for (int wrong : new int[] {-1, 7, LEAST, MOST}) {
            Check.refused(Scenes.BUSY, "kind " + wrong, NO, x -> x.score(wrong, 0));
        }
        for (int kind = 0; kind < 7; kind++) {
            int k = kind;
            for (int wrong : new int[] {-1, 5, LEAST, MOST}) {
                Check.refused(Scenes.BUSY, "bag " + wrong, NO, x -> x.score(k, wrong));
            }
            Check.refused(Scenes.BRIM, "bag 30", NO, x -> x.score(k, 30));
            Check.refused(Scenes.FRESH, "no bag", NO, x -> x.score(k, 0));
        }
    }

    private static void keepRefused() {
        Check.sentence(35, "An IMAGE is kept: how many BAGS. BAD.");
        for (Stage stage : new Stage[] {Scenes.FRESH, Scenes.BUSY, Scenes.BRIM}) {
            for (int wrong : new int[] {-1, 2, LEAST, MOST}) {
                Check.refused(stage, "image " + wrong, BAD, x -> x.keep(wrong));
            }
        }
        Check.is("no BAGS", new ThumbScale().keep(0), 0);
        Check.is("30 BAGS", Scenes.BRIM.make().keep(1), 30);
        Check.is("five BAGS", Scenes.BUSY.make().keep(0), 5);
    }

    private static void keepAgain() {
        Check.sentence(35, "IMAGES 0, 1 keep BAGS, TRIALS, LOOKS had (with what the latest one told), THE LOT; nothing else.");
        for (int image = 0; image < 2; image++) {
            int i = image;
            Check.same("kept again", Scenes.BUSY.with(x -> x.keep(i)), Scenes.BUSY.with(x -> x.keep(i) + x.keep(i)));
            // back at once is as if nothing was done
            Check.same("kept and back", Scenes.BUSY.with(x -> x.keep(i)), Scenes.BUSY.with(x -> x.keep(i) + x.back(i)));
            ThumbScale x = Scenes.BUSY.make();
            x.keep(i);
            Check.is("the other is as it was", x.back(1 - i), i == 1 ? 1 : 4);
            Check.is("this one is new", x.back(i), 5);
            x.bag(0, 0, 0, 1, 1, 0);
            Check.is("what comes behind it is not in it", x.back(i), 5);
        }
    }

    private static void backRefused() {
        Check.sentence(36, "All of that becomes as an IMAGE has it: how many BAGS. BAD; STATE: none was kept.");
        for (Stage stage : new Stage[] {Scenes.FRESH, Scenes.BUSY, Scenes.BRIM}) {
            for (int wrong : new int[] {-1, 2, LEAST, MOST}) {
                Check.refused(stage, "image " + wrong, BAD, x -> x.back(wrong));
            }
        }
        Check.refused(Scenes.FRESH, "none was kept", STATE, x -> x.back(0));
        Check.refused(Scenes.FRESH, "none was kept", STATE, x -> x.back(1));
        Check.refused(Scenes.FRESH.with(x -> x.keep(1)), "the other was kept", STATE, x -> x.back(0));
        Check.refused(Scenes.FRESH.with(x -> x.keep(0)), "the other was kept", STATE, x -> x.back(1));
        Check.refused(Scenes.FRESH.with(x -> x.keep(2)), "a refused one was not kept", STATE, x -> x.back(0));
    }

    private static void backOfAll() {
        Check.sentence(36, "All of that becomes as an IMAGE has it");
        // over a full object an empty one, and the other way round
        ThumbScale x = Scenes.of(Scenes.TWO);
        x.keep(0);
        for (int b = 0; b < 30; b++) {
            x.bag(1, b % 12, b % 4, 100 + b, 50, 0);
        }
        for (int t = 0; t < 20; t++) {
            x.trial(1, t, 10, 10 + 2 * t);
        }
        x.seldom(1, 0, 0, 15, 1);
        x.seldom(1, 0, 1, 15, 1);
        x.lot(LEAST);
        x.keep(1);
        Check.is("the empty one", x.back(0), 0);
        Check.is("no BAGS", x.count(2), 0);
        Check.is("no TRIALS", x.count(3), 0);
        Check.is("no LOOKS", x.counted(2), STATE);
        Check.is("THE LOT at first", x.lot(6), 1);
        overwriteAll(x);
        Check.is("the full one", x.back(1), 30);
        for (int b = 0; b < 30; b++) {
            Check.is("STALL of " + b, x.about(b, 0), 1);
            Check.is("HOUR of " + b, x.about(b, 1), b % 12);
            Check.is("SORT of " + b, x.about(b, 2), b % 4);
            Check.is("SHORT of " + b, x.about(b, 3), 50 + b);
            Check.is("STEPS of " + b, x.about(b, 4), (55 + b) / 10);
        }
        // 7 * (3000 + 435) by 1500
        Check.is("TOLD", x.truly(1, 0), 1603);
        Check.is("TOLD", x.truly(1, 1), 100);
        Check.is("TRIALS", x.stall(1, 4), 20);
        Check.is("OFFS", x.middle(1), 18);
        Check.is("DAYS", x.drift(1, 0), 2);
        Check.is("LOOKS", x.counted(2), 2);
        Check.is("its ALL", x.counted(1), 1000000);
        // 3 tenths, all 6 as short: 729, twice
        Check.is("what it told", x.counted(0), 1458);
        Check.is("THE LOT", x.lot(0), LEAST);
        Check.is("FULL again", x.bag(0, 0, 0, 1, 1, 0), FULL);
        Check.is("an IMAGE may come back twice", x.back(1), 30);
        Check.is("THE LOT again", x.lot(0), LEAST);
    }

    /** Other BAGS, TRIALS and a LOOK in every place that an IMAGE must bring back. */
    private static void overwriteAll(ThumbScale x) {
        for (int b = 0; b < 30; b++) {
            x.bag(0, 11 - b % 12, 3 - b % 4, 7, 900, 0);
            if (b == 3) {
                Check.is("another LOOK", x.seldom(0, 0, 11, 15, 0), 10000);
            }
        }
        for (int t = 0; t < 20; t++) {
            x.trial(0, 365 - t * t, 999, 5);
        }
        Check.is("other BAGS", x.stall(0, 3), 30);
        Check.is("other TRIALS", x.stall(0, 4), 20);
        Check.is("another ALL", x.counted(1), 10000);
    }

    private static void nothingElseKept() {
        Check.sentence(36, "nothing else");
        ThumbScale x = Scenes.of(Scenes.TWO);
        Scenes.bag(x, 0, 0, 0, 5);
        x.keep(0);
        x.belief(0, 7);
        x.bar(4, 555);
        x.score(6, 0);
        x.sales(2, 0, 0, 3);
        int sold = x.steps();
        Scenes.type(x, "way");
        x.back(0);
        Check.is("BELIEF", x.belief(0, 1), 7);
        Check.is("BAR", x.bar(4, 100), 555);
        Check.is("THE TRACE", x.trace(), 1100001);
        Check.is("steps", x.steps(), sold);
        Check.is("THE TEXT", x.clear(), 3);
        Check.is("STALLS", x.count(0), 2);
        Check.is("LESS", x.count(5), 1);
    }

    private static void countRefused() {
        Check.sentence(37, "0 STALLS, 1 WAYS, 2 BAGS, 3 TRIALS, 4 bytes of THE TEXT, 5, 6, 7 LESS, JUST, MORE. BAD.");
        for (Stage stage : new Stage[] {Scenes.FRESH, Scenes.BUSY, Scenes.BRIM}) {
            for (int wrong : new int[] {-1, 8, LEAST, MOST}) {
                Check.refused(stage, "what " + wrong, BAD, x -> x.count(wrong));
            }
        }
        int[] most = {6, 6, 30, 20, 400, 2, 6, 2};
        int[] busy = {2, 3, 5, 4, 11, 1, 6, 3};
        for (int what = 0; what < 8; what++) {
            Check.is("the most of " + what, Scenes.BRIM.make().count(what), most[what]);
            Check.is("some of " + what, Scenes.BUSY.make().count(what), busy[what]);
        }
    }

    private static void traceOfBodies() {
        Check.sentence(38, "(numbers in brackets are added to THE TRACE, 0 at first, as often as score() asks that body; "
                + "\"up\" is what the KIND above does)");
        Check.is("at first", new ThumbScale().trace(), 0);
        long[] due = {1, 11, 101, 1001, 11001, 100001, 1100001};
        for (int kind = 0; kind < 7; kind++) {
            ThumbScale x = Scenes.of("stall 1 0 0;");
            x.bag(0, 0, 0, 1, 1, 0);
            for (int times = 1; times <= 400; times++) {
                x.score(kind, 0);
            }
            Check.is("400 times as " + kind, x.trace(), 400 * due[kind]);
            x.score(kind, 1);
            x.score(7, 0);
            Check.is("a refused one adds nothing", x.trace(), 400 * due[kind]);
        }
    }
}
