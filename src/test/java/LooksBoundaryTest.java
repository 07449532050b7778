import java.math.BigInteger;

/** The boundary cases of promises 7 to 18: HOW OFTEN, BAGS, LOOKS, LIKELY, ODDS, APART. */
public final class LooksBoundaryTest {
    private static final int BAD = Check.BAD;
    private static final int STATE = Check.STATE;
    private static final int FULL = Check.FULL;
    private static final int NONE = Check.NONE;
    private static final long NO = Check.NO;
    private static final int LEAST = Check.LEAST;
    private static final int MOST = Check.MOST;

    public static void main(String[] args) {
        honestOften();
        scaleRoundedUp();
        thumbOneInM();
        thumbToOthers();
        roundNeverLess();
        oftenRefused();
        bagNumbers();
        bagRefused();
        bagsFull();
        shortRoundedDown();
        stepsHalfUp();
        aboutRefused();
        hoursOfALook();
        sortsOfALook();
        stallsOfALook();
        stepsOfALook();
        lookRefusedAndUncounted();
        seldomOfNone();
        seldomOfEighteen();
        seldomAtTheEdgesOfLuck();
        seldomRefused();
        countedOfNone();
        countedAllAtMost();
        countedOfTheLatest();
        likelyWithoutBags();
        likelyOfSix();
        likelyRefused();
        beliefs();
        oddsOfNothing();
        oddsRefused();
        judgedTheFirst();
        judgedRefused();
        apartOverAll();
        apartRefused();
        followTheFirst();
        followRefused();
        Check.end("LooksBoundaryTest");
    }

    private static void honestOften() {
        Check.sentence(7, "honest: LESS (j -1), JUST (0), MORE (1) times 60.");
        int[][] lucks = {{10, 0, 0}, {0, 10, 0}, {0, 0, 10}, {1, 2, 7}, {2, 6, 2}};
        for (int[] luck : lucks) {
            ThumbScale x = Scenes.of("luck " + luck[0] + " " + luck[1] + " " + luck[2] + ";stall 3 0 0;way honest;");
            for (int j = -3; j <= 3; j++) {
                int due = j < -1 || j > 1 ? 0 : luck[j + 1] * 60;
                Check.is("j " + j, x.often(0, 0, 0, j), due);
            }
        }
    }

    private static void scaleRoundedUp() {
        Check.sentence(7, "scale: the same by n STEPS more, n: N by STEP, rounded up.");
        for (int grains = 1; grains <= 99; grains++) {
            for (int step = 1; step <= 20; step++) {
                ThumbScale x = Scenes.of("luck 1 2 7;stall " + step + " 0 0;way scale " + grains + ";way thumb " + grains + " in 1;");
                int n = 0;
                while (n * step < grains) {
                    n++;
                }
                for (int way = 0; way < 2; way++) {
                    String what = grains + " by " + step + " of way " + way;
                    Check.is(what + ", 2 less", x.often(way, 0, 0, n - 2), 0);
                    Check.is(what + ", 1 less", x.often(way, 0, 0, n - 1), 60);
                    Check.is(what, x.often(way, 0, 0, n), 120);
                    Check.is(what + ", 1 more", x.often(way, 0, 0, n + 1), 420);
                    Check.is(what + ", 2 more", x.often(way, 0, 0, n + 2), 0);
                }
            }
        }
    }

    private static void thumbOneInM() {
        Check.sentence(7, "thumb: one in M times by n more, else honest");
        int[] luck = {60, 120, 420};
        for (int m = 1; m <= 5; m++) {
            for (int n = 1; n <= 5; n++) {
                ThumbScale x = Scenes.of("luck 1 2 7;stall 10 0 0;way thumb " + (10 * n - 9) + " in " + m + ";");
                int sum = 0;
                for (int j = -2; j <= n + 2; j++) {
                    int honest = j < -1 || j > 1 ? 0 : luck[j + 1];
                    int shifted = j - n < -1 || j - n > 1 ? 0 : luck[j - n + 1];
                    int due = shifted / m + honest - honest / m;
                    Check.is("in " + m + " by " + n + " j " + j, x.often(0, 0, 0, j), due);
                    sum += x.often(0, 0, 0, j);
                }
                Check.is("all of in " + m + " by " + n, sum, 600);
            }
        }
        ThumbScale far = Scenes.of("luck 0 0 10;stall 1 0 0;way thumb 99 in 5;");
        Check.is("99 STEPS and one more", far.often(0, 0, 0, 100), 120);
        Check.is("behind the last", far.often(0, 0, 0, 101), 0);
        Check.is("else honest", far.often(0, 0, 0, 1), 480);
    }

    private static void thumbToOthers() {
        Check.sentence(7, "(to SORTS: to others always honest)");
        String[] sorts = {"old", "young", "friend", "stranger"};
        for (int to = 0; to < 4; to++) {
            ThumbScale x = Scenes.of("luck 1 2 7;stall 1 0 0;way thumb 9 in 1 to " + sorts[to] + ";way honest;");
            for (int sort = 0; sort < 4; sort++) {
                Check.is(to + " to " + sort + " by 9", x.often(0, 0, sort, 9), sort == to ? 120 : 0);
                for (int j = -1; j <= 1; j++) {
                    Check.is(to + " to " + sort, x.often(0, 0, sort, j), sort == to ? 0 : x.often(1, 0, sort, j));
                }
            }
        }
    }

    private static void roundNeverLess() {
        Check.sentence(7, "round: never -1: 0 as often as LESS and JUST, 1 MORE.");
        int[][] lucks = {{10, 0, 0}, {0, 10, 0}, {0, 0, 10}, {1, 2, 7}};
        for (int[] luck : lucks) {
            ThumbScale x = Scenes.of("luck " + luck[0] + " " + luck[1] + " " + luck[2] + ";stall 3 0 0;way round;");
            Check.is("-2", x.often(0, 0, 0, -2), 0);
            Check.is("-1", x.often(0, 0, 0, -1), 0);
            Check.is("0", x.often(0, 0, 0, 0), (luck[0] + luck[1]) * 60);
            Check.is("1", x.often(0, 0, 0, 1), luck[2] * 60);
            Check.is("2", x.often(0, 0, 0, 2), 0);
        }
    }

    private static void oftenRefused() {
        Check.sentence(7, "HOW OFTEN. BAD.");
        for (int wrong : new int[] {-1, 3, LEAST, MOST}) {
            Check.refused(Scenes.BUSY, "way " + wrong, BAD, x -> x.often(wrong, 0, 0, 0));
        }
        for (int wrong : new int[] {-1, 2, LEAST, MOST}) {
            Check.refused(Scenes.BUSY, "stall " + wrong, BAD, x -> x.often(0, wrong, 0, 0));
        }
        for (int wrong : new int[] {-1, 4, LEAST, MOST}) {
            Check.refused(Scenes.BUSY, "sort " + wrong, BAD, x -> x.often(0, 0, wrong, 0));
        }
        Check.refused(Scenes.FRESH, "nothing told", BAD, x -> x.often(0, 0, 0, 0));
        Check.refused(new Stage(() -> Scenes.of("way honest;")), "no stall", BAD, x -> x.often(0, 0, 0, 0));
        Check.refused(new Stage(() -> Scenes.of("stall 1 0 0;")), "no way", BAD, x -> x.often(0, 0, 0, 0));
        // j is any number: near the ends of an int nothing may wrap into a j that comes
        ThumbScale x = Scenes.of("stall 1 0 0;way honest;way scale 99;way thumb 99 in 2;way round;");
        for (int way = 0; way < 4; way++) {
            for (int near = 0; near < 102; near += 3) {
                Check.is("least and " + near, x.often(way, 0, 0, LEAST + near), 0);
                Check.is("greatest less " + near, x.often(way, 0, 0, MOST - near), 0);
            }
        }
    }

    private static void bagNumbers() {
        Check.sentence(8, "are of a STALL, an HOUR 0 .. 11, a SORT, were TOLD 1 .. 999 grains, FOUND 0 .. 999, MINUTES (0 .. 99) behind.");
        ThumbScale x = Scenes.of(Scenes.TWO);
        Check.is("all at least", x.bag(0, 0, 0, 1, 0, 0), 0);
        Check.is("all at most", x.bag(1, 11, 3, 999, 999, 99), 1);
        Check.is("least told, most found", x.bag(0, 11, 0, 1, 999, 99), 2);
        Check.is("most told, least found", x.bag(1, 0, 3, 999, 0, 0), 3);
        long[][] due = {{0, 0, 0, 1, 0}, {1, 11, 3, 0, 0}, {0, 11, 0, -998 - 19, -203}, {1, 0, 3, 999, 100}};
        for (int b = 0; b < 4; b++) {
            for (int what = 0; what < 5; what++) {
                Check.is("about " + b + " " + what, x.about(b, what), due[b][what]);
            }
        }
    }

    private static void bagRefused() {
        Check.sentence(8, "A BAG: its number. BAD; FULL.");
        for (Stage stage : new Stage[] {Scenes.BUSY, Scenes.BRIM}) {
            int stalls = stage.make().count(0);
            for (int wrong : new int[] {-1, stalls, LEAST, MOST}) {
                Check.refused(stage, "stall " + wrong, BAD, x -> x.bag(wrong, 0, 0, 5, 5, 0));
            }
            for (int wrong : new int[] {-1, 12, LEAST, MOST}) {
                Check.refused(stage, "hour " + wrong, BAD, x -> x.bag(0, wrong, 0, 5, 5, 0));
            }
            for (int wrong : new int[] {-1, 4, LEAST, MOST}) {
                Check.refused(stage, "sort " + wrong, BAD, x -> x.bag(0, 0, wrong, 5, 5, 0));
            }
            for (int wrong : new int[] {-1, 0, 1000, LEAST, MOST}) {
                Check.refused(stage, "told " + wrong, BAD, x -> x.bag(0, 0, 0, wrong, 5, 0));
            }
            for (int wrong : new int[] {-1, 1000, LEAST, MOST}) {
                Check.refused(stage, "found " + wrong, BAD, x -> x.bag(0, 0, 0, 5, wrong, 0));
            }
            for (int wrong : new int[] {-1, 100, LEAST, MOST}) {
                Check.refused(stage, "minutes " + wrong, BAD, x -> x.bag(0, 0, 0, 5, 5, wrong));
            }
        }
        Check.refused(Scenes.FRESH, "no stall", BAD, x -> x.bag(0, 0, 0, 5, 5, 0));
    }

    private static void bagsFull() {
        Check.sentence(8, "BAGS 0 .. (30 at most, as they come)");
        ThumbScale x = Scenes.of(Scenes.SIX);
        for (int b = 0; b < 30; b++) {
            Check.is("bag " + b, x.bag(b % 5, b % 12, b % 4, 100, 99, 0), b);
        }
        Check.is("the 31st", x.bag(0, 0, 0, 100, 99, 0), FULL);
        Check.is("BAGS", x.count(2), 30);
        Check.is("the 31st is not there", x.about(30, 0), NO);
        Check.is("the 30th is as it was", x.about(29, 1), 5);
        Check.refused(Scenes.BRIM, "a 31st", FULL, y -> y.bag(0, 0, 0, 100, 99, 0));
        // of a stall that has none, too
        Check.is("30 of all stalls together", x.bag(5, 0, 0, 100, 99, 0), FULL);
        ThumbScale y = Scenes.BRIM.make();
        Check.is("as full by an IMAGE", y.back(0), 30);
        Check.is("FULL by an IMAGE", y.bag(0, 0, 0, 100, 99, 0), FULL);
        Stage room = Scenes.BUSY.with(z -> {
            while (z.bag(0, 0, 0, 100, 99, 0) >= 0) {
                z.trace();
            }
            return z.back(0);
        });
        Check.is("room again by an IMAGE", room.make().bag(0, 0, 0, 100, 99, 0), 1);
    }

    private static void shortRoundedDown() {
        Check.sentence(9, "SHORT: TOLD less FOUND, less DRY times MINUTES by 10, rounded down.");
        for (int dry = 0; dry <= 9; dry++) {
            for (int from = 0; from <= 99; from += 25) {
                ThumbScale x = Scenes.of("stall 1 " + dry + " 0;");
                for (int minutes = from; minutes < from + 25; minutes++) {
                    int b = x.bag(0, 0, 0, 7, 5, minutes);
                    int dried = 0;
                    while ((dried + 1) * 10 <= dry * minutes) {
                        dried++;
                    }
                    Check.is("dry " + dry + " minutes " + minutes, x.about(b, 3), 2 - dried);
                }
            }
        }
    }

    private static void stepsHalfUp() {
        Check.sentence(9, "STEPS of it: SHORT by STEP, to the nearest (a half up: 2 SHORT and STEP by 2 STEP, rounded down).");
        for (int step = 1; step <= 20; step++) {
            for (int tooLittle = -65; tooLittle <= 65; tooLittle++) {
                ThumbScale x = Scenes.of("stall " + step + " 0 0;");
                Scenes.bag(x, 0, 0, 0, tooLittle);
                long steps = x.about(0, 4);
                // off by half a STEP at most, and by a whole half only upward
                long off = 2 * tooLittle - 2 * steps * step;
                Check.holds(tooLittle + " by " + step + " is not " + steps, off >= -step && off < step);
            }
        }
        int[][] due = {{4, 2, 1}, {4, 1, 0}, {4, -2, 0}, {4, -3, -1}, {4, 6, 2}, {4, 5, 1}, {4, -6, -1}, {4, -7, -2},
            {5, 2, 0}, {5, 3, 1}, {5, -2, 0}, {5, -3, -1}, {20, 10, 1}, {20, 9, 0}, {20, -10, 0}, {20, -11, -1}, {1, 65, 65}, {1, -65, -65}};
        for (int[] row : due) {
            ThumbScale x = Scenes.of("stall " + row[0] + " 0 0;");
            Scenes.bag(x, 0, 0, 0, row[1]);
            Check.is(row[1] + " by " + row[0], x.about(0, 4), row[2]);
        }
    }

    private static void aboutRefused() {
        Check.sentence(9, "Of a BAG: 0 STALL, 1 HOUR, 2 SORT, 3 SHORT, 4 STEPS. NO: BAD.");
        Stage[] stages = {Scenes.FRESH, Scenes.BUSY, Scenes.BRIM};
        int[] bags = {0, 5, 30};
        for (int s = 0; s < 3; s++) {
            for (int wrong : new int[] {-1, bags[s], bags[s] + 1, LEAST, MOST}) {
                Check.refused(stages[s], "bag " + wrong, NO, x -> x.about(wrong, 0));
            }
        }
        for (int wrong : new int[] {-1, 5, LEAST, MOST}) {
            Check.refused(Scenes.BUSY, "what " + wrong, NO, x -> x.about(4, wrong));
        }
        Check.is("a BAG that an IMAGE had not", Scenes.BUSY.with(x -> x.back(0)).make().about(1, 0), NO);
    }

    private static void hoursOfALook() {
        Check.sentence(10, "at HOURS from .. to (0 .. 11 each; none, if to is ahead of from)");
        ThumbScale x = Scenes.of("stall 1 0 0;stall 1 0 0;");
        for (int hour = 0; hour < 12; hour++) {
            Scenes.bag(x, hour % 2, hour, hour % 4, 1);
        }
        for (int from = 0; from < 12; from++) {
            for (int to = 0; to < 12; to++) {
                int due = to < from ? 0 : to - from + 1;
                Check.is("hours " + from + " .. " + to, x.look(-1, from, to, 15, 1, 0), due);
                Check.is("short at " + from + " .. " + to, x.look(-1, from, to, 15, 1, 1), due);
            }
        }
        ThumbScale y = Scenes.of("stall 1 0 0;");
        Scenes.bag(y, 0, 3, 0, 1);
        Check.is("SELDOM of the hour", y.seldom(0, 3, 3, 15, 1), 2);
        Check.is("SELDOM of none", y.seldom(0, 4, 3, 15, 1), 1);
        Check.is("SELDOM of none", y.seldom(0, 11, 0, 15, 1), 1);
        Check.is("ALL of none", y.counted(1), 1);
    }

    private static void sortsOfALook() {
        Check.sentence(10, "of some SORTS (bits 0 .. 15): n of these; k of them short by x STEPS or more.");
        ThumbScale x = Scenes.of("stall 1 0 0;");
        for (int sort = 0; sort < 4; sort++) {
            // as many as the bit is worth, so that the bits are the number
            for (int i = 0; i < 1 << sort; i++) {
                Scenes.bag(x, 0, i % 12, sort, sort);
            }
        }
        for (int sorts = 0; sorts <= 15; sorts++) {
            Check.is("sorts " + sorts, x.look(0, 0, 11, sorts, 0, 0), sorts);
            Check.is("sorts " + sorts + " of all", x.look(-1, 0, 11, sorts, -5, 1), sorts);
            Check.is("sorts " + sorts + " short by 2", x.look(0, 0, 11, sorts, 2, 1), sorts & 12);
        }
    }

    private static void stallsOfALook() {
        Check.sentence(10, "A LOOK (stall = -1: all): how many BAGS (what = 0), of these k (1).");
        ThumbScale x = Scenes.of(Scenes.SIX);
        Check.is("all without BAGS", x.look(-1, 0, 11, 15, 0, 0), 0);
        for (int i = 0; i < 6; i++) {
            for (int n = 0; n < i; n++) {
                Scenes.bag(x, i, 0, 0, 0);
            }
        }
        for (int i = 0; i < 6; i++) {
            Check.is("stall " + i, x.look(i, 0, 11, 15, 0, 0), i);
        }
        Check.is("all", x.look(-1, 0, 11, 15, 0, 0), 15);
        Check.is("none of them is short", x.look(-1, 0, 11, 15, 1, 1), 0);
        ThumbScale none = new ThumbScale();
        Check.is("all of no STALLS", none.look(-1, 0, 11, 15, 0, 1), 0);
        Check.is("SELDOM of no STALLS", none.seldom(-1, 0, 11, 15, 0), 1);
    }

    private static void stepsOfALook() {
        Check.sentence(10, "k of them short by x STEPS or more");
        ThumbScale x = Scenes.of("stall 1 0 0;");
        for (int steps = -3; steps <= 3; steps++) {
            Scenes.bag(x, 0, 0, 0, steps);
        }
        for (int least = -5; least <= 5; least++) {
            Check.is("by " + least, x.look(0, 0, 11, 15, least, 1), Math.min(7, Math.max(0, 4 - least)));
            Check.is("n doesn't ask for x", x.look(0, 0, 11, 15, least, 0), 7);
        }
        Check.is("by the least", x.look(0, 0, 11, 15, LEAST, 1), 7);
        Check.is("by the greatest", x.look(0, 0, 11, 15, MOST, 1), 0);
        Check.is("n by the greatest", x.look(0, 0, 11, 15, MOST, 0), 7);
    }

    private static void lookRefusedAndUncounted() {
        Check.sentence(10, "(It is not counted.) BAD.");
        for (Stage stage : new Stage[] {Scenes.FRESH, Scenes.BUSY, Scenes.BRIM}) {
            Check.holds("a LOOK that is not counted changes nothing", stage.changedBy(x -> x.look(-1, 0, 11, 15, 1, 1)) == null);
            int stalls = stage.make().count(0);
            for (int wrong : new int[] {-2, stalls, LEAST, MOST}) {
                Check.refused(stage, "stall " + wrong, BAD, x -> x.look(wrong, 0, 11, 15, 1, 0));
            }
            for (int wrong : new int[] {-1, 12, LEAST, MOST}) {
                Check.refused(stage, "from " + wrong, BAD, x -> x.look(-1, wrong, 11, 15, 1, 0));
                Check.refused(stage, "to " + wrong, BAD, x -> x.look(-1, 0, wrong, 15, 1, 0));
            }
            for (int wrong : new int[] {-1, 16, LEAST, MOST}) {
                Check.refused(stage, "sorts " + wrong, BAD, x -> x.look(-1, 0, 11, wrong, 1, 0));
            }
            for (int wrong : new int[] {-1, 2, LEAST, MOST}) {
                Check.refused(stage, "what " + wrong, BAD, x -> x.look(-1, 0, 11, 15, 1, wrong));
            }
        }
    }

    private static void seldomOfNone() {
        Check.sentence(11, "SELDOM of a LOOK, that is counted. -1: BAD; -2: STATE.");
        ThumbScale x = Scenes.BUSY.make();
        Check.is("no SORTS", x.seldom(-1, 0, 11, 0, 1), 1);
        Check.is("counted", x.counted(2), 4);
        Check.is("ALL", x.counted(1), 1);
        Check.is("1 times 4, ALL at most", x.counted(0), 1);
        Check.is("no HOURS", x.seldom(0, 6, 5, 15, LEAST), 1);
        Check.is("counted, too", x.counted(2), 5);
    }

    private static void seldomOfEighteen() {
        Check.sentence(11, "SELDOM: of ALL 10 to the n (n 18 at most, else STATE) rows of honest weighings "
                + "in how many k or more are as short.");
        ThumbScale x = Scenes.of("luck 2 5 3;stall 1 0 0;");
        BigInteger all = BigInteger.ONE;
        BigInteger three = BigInteger.ONE;
        BigInteger seven = BigInteger.ONE;
        for (int n = 0; n <= 18; n++) {
            Check.is(n + " all short", x.seldom(0, 0, 11, 15, 1), three.longValueExact());
            Check.is("ALL of " + n, x.counted(1), all.longValueExact());
            Check.is(n + " none as short", x.seldom(0, 0, 11, 15, 2), all.longValueExact());
            if (n == 18) {
                break;
            }
            Scenes.bag(x, 0, 0, 0, 1);
            all = all.multiply(BigInteger.TEN);
            three = three.multiply(BigInteger.valueOf(3));
            seven = seven.multiply(BigInteger.valueOf(7));
        }
        ThumbScale one = Scenes.of("luck 2 5 3;stall 1 0 0;");
        for (int b = 0; b < 18; b++) {
            Scenes.bag(one, 0, 0, 0, b == 9 ? 1 : 0);
        }
        Check.is("one or more of 18", one.seldom(0, 0, 11, 15, 1), all.subtract(seven).longValueExact());
        nineteen();
    }

    private static void nineteen() {
        Stage nineteen = new Stage(() -> {
            ThumbScale x = Scenes.of("stall 1 0 0;stall 1 0 0;way honest;");
            for (int b = 0; b < 18; b++) {
                Scenes.bag(x, 0, 1, 0, 1);
            }
            x.seldom(0, 0, 11, 15, 1);
            Scenes.bag(x, 1, 2, 3, 1);
            return x;
        });
        Check.refused(nineteen, "19 of all", STATE, x -> x.seldom(-1, 0, 11, 15, 1));
        Check.refused(nineteen, "19, none as short", STATE, x -> x.seldom(-1, 1, 2, 9, 5));
        ThumbScale x = nineteen.make();
        Check.is("18 by the stall", x.seldom(0, 0, 11, 15, 2), 1000000000000000000L);
        Check.is("18 by the hour", x.seldom(-1, 0, 1, 15, 2), 1000000000000000000L);
        Check.is("18 by the sort", x.seldom(-1, 0, 11, 7, 2), 1000000000000000000L);
        Check.is("1 by the hour", x.seldom(-1, 2, 2, 15, 1), 2);
        Check.is("counted", x.counted(2), 5);
        Stage thirty = Scenes.BRIM;
        Check.refused(thirty, "30 of all", STATE, y -> y.seldom(-1, 0, 11, 15, 1));
        Check.is("none of 30", thirty.make().seldom(-1, 0, 11, 0, 1), 1);
    }

    private static void seldomAtTheEdgesOfLuck() {
        Check.sentence(11, "in how many k or more are as short");
        String[] lucks = {"10 0 0", "0 10 0", "0 0 10"};
        for (int luck = 0; luck < 3; luck++) {
            ThumbScale x = Scenes.of("luck " + lucks[luck] + ";stall 1 0 0;");
            for (int b = 0; b < 3; b++) {
                Scenes.bag(x, 0, 0, 0, 5);
            }
            for (int least = -3; least <= 3; least++) {
                // honest weighings are all of luck - 1
                Check.is("luck " + lucks[luck] + " by " + least, x.seldom(0, 0, 11, 15, least), luck - 1 >= least ? 1000 : 0);
            }
            Check.is("by 6: none is", x.seldom(0, 0, 11, 15, 6), 1000);
            Check.is("by the least", x.seldom(0, 0, 11, 15, LEAST), 1000);
            Check.is("by the greatest", x.seldom(0, 0, 11, 15, MOST), 1000);
        }
        ThumbScale x = Scenes.of("luck 2 5 3;stall 1 0 0;");
        Scenes.bag(x, 0, 0, 0, 2);
        int[] due = {10, 10, 8, 3, 0, 10};
        for (int least = -2; least <= 3; least++) {
            Check.is("one of 2 STEPS by " + least, x.seldom(0, 0, 11, 15, least), due[least + 2]);
        }
    }

    private static void seldomRefused() {
        Check.sentence(11, "-1: BAD; -2: STATE.");
        for (Stage stage : new Stage[] {Scenes.FRESH, Scenes.BUSY, Scenes.BRIM}) {
            int stalls = stage.make().count(0);
            for (int wrong : new int[] {-2, stalls, LEAST, MOST}) {
                Check.refused(stage, "stall " + wrong, BAD, x -> x.seldom(wrong, 0, 11, 15, 1));
            }
            for (int wrong : new int[] {-1, 12, LEAST, MOST}) {
                Check.refused(stage, "from " + wrong, BAD, x -> x.seldom(-1, wrong, 11, 15, 1));
                Check.refused(stage, "to " + wrong, BAD, x -> x.seldom(-1, 0, wrong, 15, 1));
            }
            for (int wrong : new int[] {-1, 16, LEAST, MOST}) {
                Check.refused(stage, "sorts " + wrong, BAD, x -> x.seldom(-1, 0, 11, wrong, 1));
            }
        }
    }

    private static void countedOfNone() {
        Check.sentence(12, "-1: BAD; -2: none was had.");
        Stage[] without = {Scenes.FRESH, new Stage(() -> Scenes.of(Scenes.TWO))};
        for (Stage stage : without) {
            for (int what = 0; what < 3; what++) {
                int w = what;
                Check.refused(stage, "none, " + what, STATE, x -> x.counted(w));
            }
        }
        for (Stage stage : new Stage[] {Scenes.FRESH, Scenes.BUSY}) {
            for (int wrong : new int[] {-1, 3, LEAST, MOST}) {
                Check.refused(stage, "what " + wrong, BAD, x -> x.counted(wrong));
            }
        }
        ThumbScale x = Scenes.FRESH.make();
        x.seldom(0, 0, 11, 15, 1);
        Check.is("a refused one was not had", x.counted(2), STATE);
        x.look(-1, 0, 11, 15, 1, 0);
        Check.is("one that is not counted", x.counted(2), STATE);
    }

    private static void countedAllAtMost() {
        Check.sentence(12, "COUNTED: SELDOM times LOOKS had (this one, too), ALL at most.");
        ThumbScale x = Scenes.of("luck 0 9 1;stall 1 0 0;");
        Scenes.bag(x, 0, 0, 0, 1);
        for (int looks = 1; looks <= 12; looks++) {
            Check.is("SELDOM", x.seldom(0, 0, 11, 15, 1), 1);
            Check.is("1 of 10, " + looks + " times", x.counted(0), Math.min(looks, 10));
            Check.is("ALL", x.counted(1), 10);
            Check.is("LOOKS", x.counted(2), looks);
        }
        ThumbScale most = Scenes.of("luck 0 9 1;stall 1 0 0;");
        for (int b = 0; b < 18; b++) {
            Scenes.bag(most, 0, 0, 0, b < 2 ? 1 : 0);
        }
        long once = most.seldom(0, 0, 11, 15, 0);
        Check.is("all rows", once, 1000000000000000000L);
        // from ten times on the product alone is beyond a long
        for (int looks = 2; looks <= 40; looks++) {
            most.seldom(0, 0, 11, 15, 0);
            Check.is("all rows, " + looks + " times", most.counted(0), 1000000000000000000L);
        }
        most.seldom(0, 0, 11, 15, 2);
        Check.is("none as short, 41 times", most.counted(0), 1000000000000000000L);
        ThumbScale none = Scenes.of("luck 0 10 0;stall 1 0 0;");
        Scenes.bag(none, 0, 0, 0, 1);
        none.seldom(0, 0, 11, 15, 1);
        none.seldom(0, 0, 11, 15, 1);
        Check.is("0, twice", none.counted(0), 0);
    }

    private static void countedOfTheLatest() {
        Check.sentence(12, "COUNTED of the latest LOOK that was counted (what = 0), its ALL (1), LOOKS had (2).");
        ThumbScale x = Scenes.of("luck 0 9 1;stall 1 0 0;");
        for (int looks = 1; looks <= 480; looks++) {
            x.seldom(-1, 0, 11, 15, 1);
        }
        Check.is("480 LOOKS", x.counted(2), 480);
        Scenes.bag(x, 0, 0, 0, 1);
        Check.is("what came behind it is not in it", x.counted(1), 1);
        x.seldom(0, 0, 11, 15, 1);
        Check.is("LOOKS", x.counted(2), 481);
        Check.is("ALL", x.counted(1), 10);
        Check.is("COUNTED", x.counted(0), 10);
        x.seldom(0, 0, 11, 15, 99);
        x.seldom(1, 0, 11, 15, 1);
        Check.is("a refused one is not the latest", x.counted(2), 482);
    }

    private static void likelyWithoutBags() {
        Check.sentence(13, "HOW OFTEN of each, multiplied, by 600 as often (without BAGS 1): a fraction in least terms (none: 0 by 1).");
        ThumbScale x = Scenes.of("luck 0 5 5;stall 1 0 0;stall 1 0 0;way honest;way scale 9;");
        Scenes.bag(x, 1, 0, 0, 0);
        for (int way = 0; way < 2; way++) {
            Check.is("without BAGS", x.likely(way, 0, 0), 1);
            Check.is("without BAGS", x.likely(way, 0, 1), 1);
        }
        Check.is("a half", x.likely(0, 1, 0), 1);
        Check.is("a half", x.likely(0, 1, 1), 2);
        Check.is("none", x.likely(1, 1, 0), 0);
        Check.is("none by 1", x.likely(1, 1, 1), 1);
        ThumbScale sure = Scenes.of("luck 0 0 10;stall 1 0 0;way honest;");
        Scenes.bag(sure, 0, 0, 0, 1);
        Check.is("sure", sure.likely(0, 0, 0), 1);
        Check.is("sure", sure.likely(0, 0, 1), 1);
    }

    private static void likelyOfSix() {
        Check.sentence(13, "LIKELY: of a WAY for the BAGS of a STALL (6 at most, else STATE)");
        ThumbScale x = Scenes.of("luck 2 7 1;stall 1 0 0;stall 1 0 0;way thumb 9 in 5;way honest;");
        long lower = 1;
        for (int n = 1; n <= 6; n++) {
            Scenes.bag(x, 0, n, n % 4, 10);
            // 12 of 600
            lower *= 50;
            Check.is(n + " BAGS, upper", x.likely(0, 0, 0), 1);
            Check.is(n + " BAGS, lower", x.likely(0, 0, 1), lower);
        }
        Scenes.bag(x, 1, 0, 0, 0);
        Check.is("a BAG of another", x.likely(0, 0, 1), lower);
        Check.is("the other", x.likely(1, 1, 0), 7);
        Check.is("the other", x.likely(1, 1, 1), 10);
        Stage seven = new Stage(() -> {
            ThumbScale y = Scenes.of(Scenes.TWO);
            for (int b = 0; b < 7; b++) {
                Scenes.bag(y, 1, 0, 0, 0);
            }
            Scenes.bag(y, 0, 0, 0, 0);
            return y;
        });
        for (int what = 0; what < 2; what++) {
            int w = what;
            Check.refused(seven, "LIKELY of seven", STATE, y -> y.likely(0, 1, w));
            Check.refused(seven, "ODDS of seven", STATE, y -> y.odds(0, 1, w));
        }
        Check.refused(seven, "JUDGED of seven", STATE, y -> y.judged(1));
        Check.refused(seven, "BAD ahead of STATE, way", BAD, y -> y.likely(3, 1, 0));
        Check.refused(seven, "BAD ahead of STATE, what", BAD, y -> y.likely(0, 1, 2));
        Check.refused(seven, "BAD ahead of STATE, odds", BAD, y -> y.odds(-1, 1, 0));
        Check.is("the other is not seven", seven.make().likely(0, 0, 1), 5);
        Check.is("the other is judged", seven.make().judged(0), 0);
    }

    private static void likelyRefused() {
        Check.sentence(13, "LIKELY: upper (what = 0), lower number (1). -1: BAD; -2: STATE.");
        for (int wrong : new int[] {-1, 3, LEAST, MOST}) {
            Check.refused(Scenes.BUSY, "way " + wrong, BAD, x -> x.likely(wrong, 0, 0));
        }
        for (int wrong : new int[] {-1, 2, LEAST, MOST}) {
            Check.refused(Scenes.BUSY, "stall " + wrong, BAD, x -> x.likely(0, wrong, 0));
            Check.refused(Scenes.BUSY, "what " + wrong, BAD, x -> x.likely(0, 0, wrong));
        }
        Check.refused(Scenes.FRESH, "nothing told", BAD, x -> x.likely(0, 0, 0));
    }

    private static void beliefs() {
        Check.sentence(14, "BELIEF of a WAY 0 .. 9 (1 at first).");
        ThumbScale x = Scenes.of(Scenes.SIX);
        for (int way = 0; way < 6; way++) {
            Check.is("at first", x.belief(way, 0), 1);
            Check.is("0", x.belief(way, 9), 0);
            Check.is("9", x.belief(way, way), 9);
        }
        for (int way = 0; way < 6; way++) {
            Check.is("each its own", x.belief(way, 1), way);
        }
        Check.sentence(14, "BELIEF of a WAY becomes v: what it was. BAD.");
        for (int wrong : new int[] {-1, 10, LEAST, MOST}) {
            Check.refused(Scenes.BUSY, "v " + wrong, BAD, y -> y.belief(1, wrong));
        }
        for (int wrong : new int[] {-1, 3, LEAST, MOST}) {
            Check.refused(Scenes.BUSY, "way " + wrong, BAD, y -> y.belief(wrong, 5));
        }
        Check.refused(Scenes.BRIM, "way 6", BAD, y -> y.belief(6, 5));
        Check.refused(Scenes.FRESH, "no ways", BAD, y -> y.belief(0, 5));
    }

    private static void oddsOfNothing() {
        Check.sentence(15, "ODDS of a WAY at a STALL: BELIEF times LIKELY, by these of all WAYS added (STATE, too, if they are 0).");
        Stage disbelieved = new Stage(() -> {
            ThumbScale x = Scenes.of(Scenes.TWO);
            for (int way = 0; way < 3; way++) {
                x.belief(way, 0);
            }
            return x;
        });
        Stage impossible = new Stage(() -> {
            ThumbScale x = Scenes.of(Scenes.TWO);
            Scenes.bag(x, 0, 0, 0, 400);
            return x;
        });
        for (Stage stage : new Stage[] {disbelieved, impossible}) {
            for (int way = 0; way < 3; way++) {
                int w = way;
                Check.refused(stage, "upper of " + way, STATE, x -> x.odds(w, 0, 0));
                Check.refused(stage, "lower of " + way, STATE, x -> x.odds(w, 0, 1));
            }
            Check.refused(stage, "JUDGED", STATE, x -> x.judged(0));
            Check.refused(stage, "BAD ahead of STATE, way", BAD, x -> x.odds(3, 0, 0));
            Check.refused(stage, "BAD ahead of STATE, stall", BAD, x -> x.odds(0, 2, 0));
            Check.refused(stage, "BAD ahead of STATE, what", BAD, x -> x.odds(0, 0, 2));
        }
        ThumbScale x = impossible.make();
        Check.is("at the other STALL", x.odds(0, 1, 1), 3);
        ThumbScale one = disbelieved.make();
        one.belief(2, 9);
        Check.is("one alone", one.odds(2, 0, 0), 1);
        Check.is("one alone", one.odds(2, 0, 1), 1);
        Check.is("not believed: 0", one.odds(0, 0, 0), 0);
        Check.is("not believed: by 1", one.odds(0, 0, 1), 1);
        one.belief(2, 1);
        Check.is("the least that is not 0", one.odds(2, 0, 0), 1);
        Check.is("the least that is not 0", one.odds(2, 0, 1), 1);
        Check.is("the least that is not 0, judged", one.judged(0), 2);
        dearestOdds();
    }

    private static void dearestOdds() {
        ThumbScale x = Scenes.of("luck 0 0 10;stall 1 0 0;" + "way honest;".repeat(5) + "way thumb 5 in 2;");
        for (int b = 0; b < 6; b++) {
            Scenes.bag(x, 0, 0, 0, 1);
            x.belief(b, 9);
        }
        // 9 each, and 9 by 64
        Check.is("upper", x.odds(0, 0, 0), 64);
        Check.is("lower", x.odds(0, 0, 1), 321);
        Check.is("upper of the least", x.odds(5, 0, 0), 1);
        Check.is("lower of the least", x.odds(5, 0, 1), 321);
    }

    private static void oddsRefused() {
        Check.sentence(15, "ODDS: upper (what = 0), lower number (1). -1: BAD; -2: STATE.");
        for (int wrong : new int[] {-1, 3, LEAST, MOST}) {
            Check.refused(Scenes.BUSY, "way " + wrong, BAD, x -> x.odds(wrong, 0, 0));
        }
        for (int wrong : new int[] {-1, 2, LEAST, MOST}) {
            Check.refused(Scenes.BUSY, "stall " + wrong, BAD, x -> x.odds(0, wrong, 0));
            Check.refused(Scenes.BUSY, "what " + wrong, BAD, x -> x.odds(0, 0, wrong));
        }
        Check.refused(Scenes.FRESH, "nothing told", BAD, x -> x.odds(0, 0, 0));
    }

    private static void judgedTheFirst() {
        Check.sentence(16, "JUDGED: the WAY with the greatest, of several the first.");
        ThumbScale x = Scenes.of("stall 1 0 0;" + "way honest;".repeat(6));
        Check.is("all the same", x.judged(0), 0);
        for (int way = 0; way < 5; way++) {
            x.belief(way, 0);
            Check.is("the first that is believed", x.judged(0), way + 1);
        }
        x.belief(2, 1);
        Check.is("of two the first", x.judged(0), 2);
        x.belief(4, 2);
        Check.is("the greatest", x.judged(0), 4);
        x.belief(5, 2);
        Check.is("of the two greatest the first", x.judged(0), 4);
        ThumbScale one = Scenes.of("stall 1 0 0;way scale 1;");
        Check.is("one alone", one.judged(0), 0);
    }

    private static void judgedRefused() {
        Check.sentence(16, "JUDGED. BAD; STATE (no WAYS, too).");
        Stage noWays = new Stage(() -> Scenes.of("stall 1 0 0;"));
        Check.refused(noWays, "no WAYS", STATE, x -> x.judged(0));
        Check.refused(noWays, "BAD ahead of no WAYS", BAD, x -> x.judged(1));
        Check.refused(Scenes.FRESH, "nothing told", BAD, x -> x.judged(0));
        Check.refused(new Stage(() -> Scenes.of("way honest;")), "no STALLS", BAD, x -> x.judged(0));
        for (int wrong : new int[] {-1, 2, LEAST, MOST}) {
            Check.refused(Scenes.BUSY, "stall " + wrong, BAD, x -> x.judged(wrong));
        }
    }

    private static void apartOverAll() {
        Check.sentence(17, "APART of two WAYS at a STALL by a SORT: by how much HOW OFTEN differs, over all j, added.");
        ThumbScale x = Scenes.of("luck 0 0 10;stall 1 0 0;stall 20 0 0;way honest;way scale 99;way scale 98;way thumb 99 in 5;"
                + "way scale 81;way round;");
        Check.is("1 and 100", x.apart(0, 1, 0, 0), 1200);
        Check.is("99 and 100", x.apart(1, 2, 0, 0), 1200);
        Check.is("100, and one of five at 100", x.apart(1, 3, 0, 0), 960);
        Check.is("1, and four of five at 1", x.apart(0, 3, 0, 3), 240);
        Check.is("the same STEPS at 20", x.apart(1, 4, 1, 0), 0);
        Check.is("never LESS: round is honest", x.apart(0, 5, 0, 0), 0);
        for (int way = 0; way < 6; way++) {
            Check.is("itself", x.apart(way, way, 0, 0), 0);
            Check.is("either way round", x.apart(way, 1, 0, 0), x.apart(1, way, 0, 0));
        }
        ThumbScale less = Scenes.of("luck 10 0 0;stall 1 0 0;way honest;way round;way scale 1;");
        Check.is("-1 and 0", less.apart(0, 1, 0, 0), 1200);
        Check.is("0 and 0", less.apart(1, 2, 0, 0), 0);
    }

    private static void apartRefused() {
        Check.sentence(17, "APART. BAD.");
        for (int wrong : new int[] {-1, 3, LEAST, MOST}) {
            Check.refused(Scenes.BUSY, "one " + wrong, BAD, x -> x.apart(wrong, 0, 0, 0));
            Check.refused(Scenes.BUSY, "other " + wrong, BAD, x -> x.apart(0, wrong, 0, 0));
        }
        for (int wrong : new int[] {-1, 2, LEAST, MOST}) {
            Check.refused(Scenes.BUSY, "stall " + wrong, BAD, x -> x.apart(0, 1, wrong, 0));
        }
        for (int wrong : new int[] {-1, 4, LEAST, MOST}) {
            Check.refused(Scenes.BUSY, "sort " + wrong, BAD, x -> x.apart(0, 1, 0, wrong));
        }
        Check.refused(Scenes.FRESH, "nothing told", BAD, x -> x.apart(0, 0, 0, 0));
    }

    private static void followTheFirst() {
        Check.sentence(18, "FOLLOW: the SORT by whom it is the greatest, of several the first; NONE: 0 by all.");
        String[] sorts = {"old", "young", "friend", "stranger"};
        for (int one = 0; one < 4; one++) {
            for (int two = one; two < 4; two++) {
                String to = two == one ? sorts[one] : sorts[two] + " " + sorts[one];
                ThumbScale x = Scenes.of("stall 1 0 0;way honest;way thumb 9 in 2 to " + to + ";way thumb 9 in 1 to " + sorts[two] + ";");
                Check.is("of " + to + " the first", x.follow(0, 1, 0), one);
                Check.is("either way round", x.follow(1, 0, 0), one);
                Check.is("the greatest", x.follow(0, 2, 0), two);
                Check.is("itself: NONE", x.follow(1, 1, 0), NONE);
            }
        }
        ThumbScale x = Scenes.of("luck 0 5 5;stall 20 0 0;way honest;way round;way scale 1;way scale 20;");
        Check.is("the same by all: NONE", x.follow(0, 1, 0), NONE);
        Check.is("the same STEPS: NONE", x.follow(2, 3, 0), NONE);
        Check.is("apart by all", x.follow(0, 3, 0), 0);
        ThumbScale four = Scenes.of("stall 1 0 0;way scale 9;way thumb 9 in 2;way thumb 9 in 1;");
        Check.is("a thumb to all: there are four SORTS", four.follow(0, 1, 0), 0);
        Check.is("a thumb always, to all: NONE", four.follow(0, 2, 0), NONE);
    }

    private static void followRefused() {
        Check.sentence(18, "FOLLOW; NONE. BAD.");
        for (int wrong : new int[] {-1, 3, LEAST, MOST}) {
            Check.refused(Scenes.BUSY, "one " + wrong, BAD, x -> x.follow(wrong, 0, 0));
            Check.refused(Scenes.BUSY, "other " + wrong, BAD, x -> x.follow(0, wrong, 0));
            Check.refused(Scenes.BUSY, "both " + wrong, BAD, x -> x.follow(wrong, wrong, 0));
        }
        for (int wrong : new int[] {-1, 2, LEAST, MOST}) {
            Check.refused(Scenes.BUSY, "stall " + wrong, BAD, x -> x.follow(0, 1, wrong));
        }
        Check.refused(Scenes.FRESH, "nothing told", BAD, x -> x.follow(0, 0, 0));
    }
}
