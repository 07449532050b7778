import java.math.BigInteger;

/** The boundary cases of promises 19 to 22: BARS, what is DONE, its COST, when it is ENOUGH. */
public final class EnoughBoundaryTest {
    private static final int BAD = Check.BAD;
    private static final int NONE = Check.NONE;
    private static final long NO = Check.NO;
    private static final int LEAST = Check.LEAST;
    private static final int MOST = Check.MOST;
    private static final int ACCUSE = 0, CLEAR = 1, GO_ON = 2;

    private static final int[] BAR_LEAST = {0, 0, 1, 1, 0, 0, 0, 1};
    private static final int[] BAR_MOST = {10, 10, 9, 9, 999, 999, 99, 8};
    private static final int[] BAR_FIRST = {2, 6, 5, 1, 100, 20, 1, 6};

    public static void main(String[] args) {
        barsAtFirst();
        barRefused();
        bagsAtMost();
        doneRefused();
        costRefused();
        atTheLast();
        neverOrAlwaysShort();
        ofSeveral();
        freeAndDear();
        dearest();
        last();
        sure();
        enoughRefused();
        everyEdgeOfTheBars();
        Check.end("EnoughBoundaryTest");
    }

    private static ThumbScale of(int... bars) {
        ThumbScale x = new ThumbScale();
        for (int k = 0; k < 8; k++) {
            Check.is("bar " + k, x.bar(k, bars[k]), BAR_FIRST[k]);
        }
        return x;
    }

    private static void barsAtFirst() {
        Check.sentence(19, "BAR: 0 Q, 1 R (tenths by which a BAG of an honest one, of another one is short; 0 .. 10; 2, 6 at first), "
                + "2 H, 3 G (how many are honest, are not; 1 .. 9; 5, 1), 4 WRONG (it costs, if an honest one is accused; 0 .. 999; 100), "
                + "5 FREE (if another one is let go; 0 .. 999; 20), 6 LOOKING (each BAG; 0 .. 99; 1), 7 N (BAGS at most; 1 .. 8; 6).");
        for (int k = 0; k < 8; k++) {
            ThumbScale x = new ThumbScale();
            Check.is("BAR " + k + " at first", x.bar(k, BAR_LEAST[k]), BAR_FIRST[k]);
            Check.is("BAR " + k + " at least", x.bar(k, BAR_MOST[k]), BAR_LEAST[k]);
            Check.is("BAR " + k + " at most", x.bar(k, BAR_FIRST[k]), BAR_MOST[k]);
            for (int other = 0; other < 8; other++) {
                Check.is("BAR " + other + " is as at first", x.bar(other, BAR_FIRST[other]), BAR_FIRST[other]);
            }
        }
    }

    private static void barRefused() {
        Check.sentence(19, "BAR k becomes v: what it was. BAD.");
        for (Stage stage : new Stage[] {Scenes.FRESH, Scenes.BUSY, Scenes.BRIM}) {
            for (int bar = 0; bar < 8; bar++) {
                int k = bar;
                for (int wrong : new int[] {BAR_LEAST[k] - 1, BAR_MOST[k] + 1, LEAST, MOST}) {
                    Check.refused(stage, "BAR " + k + " of " + wrong, BAD, x -> x.bar(k, wrong));
                }
            }
            for (int wrong : new int[] {-1, 8, LEAST, MOST}) {
                Check.refused(stage, "BAR " + wrong, BAD, x -> x.bar(wrong, 1));
            }
        }
    }

    private static void bagsAtMost() {
        Check.sentence(20, "DONE behind n BAGS, k short. BAD (n above N, k above n).");
        for (int most = 1; most <= 8; most++) {
            int bags = most;
            Stage stage = Scenes.FRESH.with(x -> x.bar(7, bags));
            ThumbScale x = stage.make();
            for (int n = 0; n <= most; n++) {
                for (int k = 0; k <= n; k++) {
                    Check.holds("N " + most + " done " + n + " " + k, x.done(n, k) >= ACCUSE && x.done(n, k) <= GO_ON);
                    Check.holds("N " + most + " cost " + n + " " + k, x.cost(n, k) >= 0);
                }
            }
            Check.refused(stage, "n above N " + most, BAD, y -> y.done(bags + 1, 0));
            Check.refused(stage, "k above N " + most, BAD, y -> y.done(bags, bags + 1));
            Check.refused(stage, "cost above N " + most, NO, y -> y.cost(bags + 1, bags + 1));
            Check.refused(stage, "cost, k above N " + most, NO, y -> y.cost(bags, bags + 1));
            Check.refused(stage, "enough above N " + most, BAD, y -> y.enough(bags + 1));
        }
        ThumbScale x = new ThumbScale();
        long six = x.cost(6, 6);
        x.bar(7, 1);
        Check.is("N is less now", x.done(6, 6), BAD);
        Check.is("N is less now", x.cost(2, 0), NO);
        x.bar(7, 6);
        Check.is("N is more again", x.cost(6, 6), six);
    }

    private static void doneRefused() {
        Check.sentence(20, "BAD (n above N, k above n)");
        for (int n = 0; n <= 6; n++) {
            for (int wrong : new int[] {-1, n + 1, LEAST, MOST}) {
                int bags = n;
                Check.refused(Scenes.FRESH, "done " + n + " " + wrong, BAD, x -> x.done(bags, wrong));
            }
        }
        for (int wrong : new int[] {-1, 7, 9, LEAST, MOST}) {
            Check.refused(Scenes.FRESH, "done " + wrong + " 0", BAD, x -> x.done(wrong, 0));
            Check.refused(Scenes.FRESH, "done " + wrong + " of all", BAD, x -> x.done(wrong, wrong));
        }
        Check.holds("done changes nothing", Scenes.BUSY.changedBy(x -> x.done(4, 2)) == null);
    }

    private static void costRefused() {
        Check.sentence(21, "The least COST behind n BAGS, k short. NO: BAD.");
        for (int n = 0; n <= 6; n++) {
            for (int wrong : new int[] {-1, n + 1, LEAST, MOST}) {
                int bags = n;
                Check.refused(Scenes.FRESH, "cost " + n + " " + wrong, NO, x -> x.cost(bags, wrong));
            }
        }
        for (int wrong : new int[] {-1, 7, 9, LEAST, MOST}) {
            Check.refused(Scenes.FRESH, "cost " + wrong + " 0", NO, x -> x.cost(wrong, 0));
            Check.refused(Scenes.FRESH, "cost " + wrong + " of all", NO, x -> x.cost(wrong, wrong));
        }
    }

    private static void atTheLast() {
        Check.sentence(20, "to GO ON (n below N) LOOKING times both weights added, times 10 to the N - n, "
                + "and the least COSTS behind one BAG more, short or not, added.");
        // at N there is no more to look at, even if looking is free and all else is dear
        for (int most = 1; most <= 8; most++) {
            ThumbScale x = of(3, 7, 9, 9, 999, 999, 0, most);
            for (int k = 0; k <= most; k++) {
                Check.holds("no GO ON at " + most + " " + k, x.done(most, k) != GO_ON);
            }
            // one BAG more can change what is DONE only where as many were short as not
            Check.is("GO ON ahead of it", x.enough(-1), (most - 1) / 2 * 2);
        }
        // N 1: ACCUSE 50 * 10, CLEAR 40 * 10; short: 50 * 0, 40 * 10; not: 50 * 10, 40 * 0
        ThumbScale x = of(0, 10, 1, 1, 50, 40, 19, 1);
        Check.is("GO ON 19 * 20", x.cost(0, 0), 380);
        Check.is("GO ON", x.done(0, 0), GO_ON);
        x.bar(6, 20);
        Check.is("GO ON 20 * 20 is no less than CLEAR", x.done(0, 0), CLEAR);
        Check.is("CLEAR 400", x.cost(0, 0), 400);
        x.bar(6, 21);
        Check.is("GO ON 21 * 20 is more", x.done(0, 0), CLEAR);
    }

    private static void neverOrAlwaysShort() {
        Check.sentence(20, "weights: H times Q to the k times 10 less Q to the n - k; G likewise by R.");
        // 0 to the 0 is 1
        ThumbScale x = of(0, 10, 9, 9, 7, 5, 99, 3);
        Check.is("0, 0: CLEAR 5 * 9 * 1000", x.cost(0, 0), 45000);
        Check.is("3, 0: CLEAR 5 * 0", x.cost(3, 0), 0);
        Check.is("3, 0: CLEAR", x.done(3, 0), CLEAR);
        Check.is("3, 3: ACCUSE 7 * 0", x.cost(3, 3), 0);
        Check.is("3, 3: ACCUSE", x.done(3, 3), ACCUSE);
        Check.is("3, 1: both 0: ACCUSE", x.done(3, 1), ACCUSE);
        Check.is("2, 0", x.done(2, 0), CLEAR);
        ThumbScale turned = of(10, 0, 9, 9, 7, 5, 99, 3);
        Check.is("3, 3: the honest are always short", turned.done(3, 3), CLEAR);
        Check.is("3, 0: others never", turned.done(3, 0), ACCUSE);
        Check.is("3, 3: CLEAR 5 * 0", turned.cost(3, 3), 0);
        ThumbScale both = of(10, 10, 2, 3, 7, 5, 99, 2);
        Check.is("2, 2: ACCUSE 7 * 200, CLEAR 5 * 300", both.cost(2, 2), 1400);
        Check.is("2, 2: ACCUSE", both.done(2, 2), ACCUSE);
        Check.is("2, 1: 0", both.cost(2, 1), 0);
        ThumbScale none = of(0, 0, 2, 3, 8, 5, 99, 2);
        Check.is("2, 0: ACCUSE 8 * 200, CLEAR 5 * 300", none.cost(2, 0), 1500);
        Check.is("2, 0: CLEAR", none.done(2, 0), CLEAR);
        Check.is("2, 2: both 0: ACCUSE", none.done(2, 2), ACCUSE);
    }

    private static void ofSeveral() {
        Check.sentence(20, "DONE: what costs least: of several ACCUSE (0) ahead of CLEAR (1) ahead of GO ON (2).");
        // ACCUSE, CLEAR and GO ON 20 * 10
        ThumbScale all = of(0, 10, 1, 1, 20, 20, 10, 1);
        Check.is("all three 200", all.done(0, 0), ACCUSE);
        ThumbScale clearOn = of(0, 10, 1, 1, 21, 20, 10, 1);
        Check.is("CLEAR and GO ON 200", clearOn.done(0, 0), CLEAR);
        ThumbScale accuseOn = of(0, 10, 1, 1, 20, 21, 10, 1);
        Check.is("ACCUSE and GO ON 200", accuseOn.done(0, 0), ACCUSE);
        ThumbScale on = of(0, 10, 1, 1, 21, 21, 10, 1);
        Check.is("GO ON 200 alone", on.done(0, 0), GO_ON);
        ThumbScale accuseClear = of(5, 5, 1, 1, 20, 20, 10, 1);
        Check.is("ACCUSE and CLEAR", accuseClear.done(1, 0), ACCUSE);
        Check.is("ACCUSE and CLEAR", accuseClear.done(1, 1), ACCUSE);
        accuseClear.bar(4, 21);
        Check.is("CLEAR by one", accuseClear.done(1, 1), CLEAR);
    }

    private static void freeAndDear() {
        Check.sentence(20, "to ACCUSE WRONG times the first weight, to CLEAR FREE times the second, both times 10 to the N - n");
        ThumbScale x = of(2, 6, 5, 1, 0, 0, 0, 8);
        Check.is("all for nothing", x.cost(0, 0), 0);
        for (int n = 0; n <= 8; n++) {
            Check.is("all for nothing: ACCUSE", x.done(n, n / 2), ACCUSE);
        }
        x.bar(4, 1);
        for (int n = 0; n <= 8; n++) {
            Check.is("to clear for nothing", x.done(n, n / 2), CLEAR);
        }
        x.bar(5, 1);
        x.bar(4, 0);
        Check.is("to accuse for nothing", x.done(8, 0), ACCUSE);
        ThumbScale y = new ThumbScale();
        Check.is("0, 0 in units of 10 to the 6", y.cost(0, 0), 20L * 1000000);
        y.bar(7, 1);
        Check.is("0, 0 in units of 10", y.cost(0, 0), 20L * 10);
        y.bar(7, 8);
        y.bar(6, 99);
        Check.is("0, 0 in units of 10 to the 8", y.cost(0, 0), 20L * 100000000);
    }

    private static void dearest() {
        Check.sentence(21, "COST, in units of 10 to the N");
        ThumbScale x = of(5, 5, 9, 9, 999, 999, 99, 8);
        Check.is("9 * 999 * 10 to the 8", x.cost(0, 0), 899100000000L);
        Check.is("9 * 999 * 5 to the 8", x.cost(8, 4), 3512109375L);
        ThumbScale y = of(10, 10, 9, 9, 999, 999, 99, 8);
        Check.is("9 * 999 * 10 to the 8, at the last", y.cost(8, 8), 899100000000L);
        Check.is("0 at the last", y.cost(8, 7), 0);
    }

    private static void last() {
        Check.sentence(22, "LAST: of all n the greatest at which GO ON is DONE for some k; NONE.");
        ThumbScale x = new ThumbScale();
        x.bar(6, 99);
        Check.is("looking is too dear", x.enough(-1), NONE);
        x.bar(4, 0);
        Check.is("to accuse costs nothing", x.enough(-1), NONE);
        ThumbScale tells = of(0, 10, 1, 1, 50, 50, 0, 8);
        Check.is("one BAG tells all", tells.enough(-1), 0);
        ThumbScale y = of(2, 6, 5, 1, 100, 20, 0, 1);
        Check.is("N 1: a BAG changes nothing", y.enough(-1), NONE);
        y.bar(5, 999);
        Check.is("N 1: a BAG helps", y.enough(-1), 0);
    }

    private static void sure() {
        Check.sentence(22, "SURE: the least k by which behind n BAGS ACCUSE is DONE; NONE.");
        ThumbScale x = of(0, 10, 1, 1, 50, 40, 0, 3);
        Check.is("behind 0: NONE", x.enough(0), NONE);
        Check.is("behind 1", x.enough(1), 1);
        Check.is("behind 3", x.enough(3), 1);
        x.bar(4, 0);
        for (int n = 0; n <= 3; n++) {
            Check.is("for nothing behind " + n, x.enough(n), 0);
        }
        ThumbScale never = of(10, 0, 1, 1, 50, 40, 99, 2);
        Check.is("the honest are short, others not", never.enough(2), 0);
        ThumbScale clear = of(5, 5, 9, 1, 999, 1, 99, 8);
        for (int n = 0; n <= 8; n++) {
            Check.is("never behind " + n, clear.enough(n), NONE);
        }
        // all of them must be short: 6 by 6 at 9 tenths against 3
        ThumbScale all = of(3, 6, 1, 1, 16, 1, 99, 4);
        Check.is("16 * 81, 1296: of equal ones ACCUSE", all.enough(4), 4);
        all.bar(4, 17);
        Check.is("17 * 81, 1296", all.enough(4), NONE);
    }

    private static void enoughRefused() {
        Check.sentence(22, "LAST (n = -1), SURE (0 .. N); NONE. BAD.");
        for (Stage stage : new Stage[] {Scenes.FRESH, Scenes.BUSY, Scenes.BRIM}) {
            int most = stage.make().bar(7, 1);
            for (int wrong : new int[] {-2, most + 1, 9, LEAST, MOST}) {
                Check.refused(stage, "enough " + wrong, BAD, x -> x.enough(wrong));
            }
            for (int n = -1; n <= most; n++) {
                int bags = n;
                Check.holds("enough " + n + " is not BAD", stage.make().enough(n) != BAD);
                Check.holds("enough " + n + " changes nothing", stage.changedBy(x -> x.enough(bags)) == null);
            }
        }
    }

    /** Every BAR at its least and most at once, against costs worked with numbers that can't wrap. */
    private static void everyEdgeOfTheBars() {
        Check.sentence(21, "The least COST behind n BAGS, k short.");
        for (int edges = 0; edges < 256; edges++) {
            int[] bars = new int[8];
            for (int k = 0; k < 8; k++) {
                bars[k] = (edges >> k & 1) == 1 ? BAR_MOST[k] : BAR_LEAST[k];
            }
            compare(bars);
        }
        for (int q = 0; q <= 10; q++) {
            for (int r = 0; r <= 10; r++) {
                compare(new int[] {q, r, 5, 1, 100, 999, 1, 4});
                compare(new int[] {q, r, 1, 1, 30, 30, 2, 3});
            }
        }
    }

    private static void compare(int[] bars) {
        ThumbScale x = of(bars);
        int most = bars[7];
        BigInteger[][] least = new BigInteger[most + 1][most + 1];
        int last = NONE;
        for (int n = most; n >= 0; n--) {
            int sure = NONE;
            for (int k = n; k >= 0; k--) {
                BigInteger honest = weight(bars[2], bars[0], n, k, most);
                BigInteger other = weight(bars[3], bars[1], n, k, most);
                BigInteger[] costs = {honest.multiply(BigInteger.valueOf(bars[4])), other.multiply(BigInteger.valueOf(bars[5])), null};
                int choice = costs[CLEAR].compareTo(costs[ACCUSE]) < 0 ? CLEAR : ACCUSE;
                if (n < most) {
                    costs[GO_ON] = honest.add(other).multiply(BigInteger.valueOf(bars[6])).add(least[n + 1][k + 1]).add(least[n + 1][k]);
                    choice = costs[GO_ON].compareTo(costs[choice]) < 0 ? GO_ON : choice;
                }
                least[n][k] = costs[choice];
                sure = choice == ACCUSE ? k : sure;
                last = choice == GO_ON ? Math.max(last, n) : last;
                Check.is("cost " + n + " " + k, x.cost(n, k), costs[choice].longValueExact());
                Check.is("done " + n + " " + k, x.done(n, k), choice);
            }
            Check.is("enough " + n, x.enough(n), sure);
        }
        Check.is("LAST", x.enough(-1), last);
    }

    private static BigInteger weight(int many, int tenths, int n, int k, int most) {
        return BigInteger.valueOf(many).multiply(BigInteger.valueOf(tenths).pow(k)).multiply(BigInteger.valueOf(10 - tenths).pow(n - k))
                .multiply(BigInteger.TEN.pow(most - n));
    }
}
