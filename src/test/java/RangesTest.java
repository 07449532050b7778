import java.lang.reflect.InvocationTargetException;
import java.lang.reflect.Method;
import java.util.ArrayList;
import java.util.Arrays;
import java.util.List;

/**
 * Every number of every call, at its least and most and one beyond them, alone and two at a time: a call with
 * a number that is not as told is BAD, whatever STATE or FULL would be, and changes nothing; no other is BAD.
 */
public final class RangesTest {
    private static final int BAD = Check.BAD;
    private static final long NO = Check.NO;
    /** A number that may be any. */
    private static final int[] ANY = {Check.LEAST, Check.MOST};

    /** A call, what it answers if it is BAD, and for each number its least and most. */
    record Row(String name, long bad, int[]... ranges) { }

    public static void main(String[] args) throws ReflectiveOperationException {
        Check.sentence(0, "Refused, and nothing changes, the first of these: BAD (a number is not as told, or there is no such thing), "
                + "STATE (as told), FULL.");
        Stage noWays = new Stage(() -> {
            ThumbScale x = Scenes.of("stall 3 3 3;");
            for (int b = 0; b < 19; b++) {
                Scenes.bag(x, 0, b % 12, b % 4, b);
            }
            return x;
        });
        for (Stage stage : new Stage[] {Scenes.FRESH, Scenes.BUSY, Scenes.BRIM, noWays}) {
            for (Row row : rows(stage.make())) {
                tryRow(stage, row);
            }
        }
        bars();
        Check.end("RangesTest");
    }

    private static int[] range(int least, int most) {
        return new int[] {least, most};
    }

    private static List<Row> rows(ThumbScale x) {
        int[] stall = range(0, x.count(0) - 1);
        int[] stallOrAll = range(-1, x.count(0) - 1);
        int[] way = range(0, x.count(1) - 1);
        int[] bag = range(0, x.count(2) - 1);
        int[] sort = range(0, 3);
        int[] hour = range(0, 11);
        int[] sorts = range(0, 15);
        int[] part = range(0, 1);
        int[] three = range(0, 2);
        int n = x.bar(7, 1);
        return List.of(
                new Row("type", BAD, ANY, range(1, 8)),
                new Row("stall", BAD, stall, range(0, 4)),
                new Row("way", BAD, way, range(0, 3)),
                new Row("often", BAD, way, stall, sort, ANY),
                new Row("bag", BAD, stall, hour, sort, range(1, 999), range(0, 999), range(0, 99)),
                new Row("about", NO, bag, range(0, 4)),
                new Row("look", BAD, stallOrAll, hour, hour, sorts, ANY, part),
                new Row("seldom", BAD, stallOrAll, hour, hour, sorts, ANY),
                new Row("counted", BAD, three),
                new Row("likely", BAD, way, stall, part),
                new Row("belief", BAD, way, range(0, 9)),
                new Row("odds", BAD, way, stall, part),
                new Row("judged", BAD, stall),
                new Row("apart", BAD, way, way, stall, sort),
                new Row("follow", BAD, way, way, stall),
                new Row("enough", BAD, range(-1, n)),
                new Row("favoured", BAD, stall),
                new Row("even", BAD, stall, three),
                new Row("trial", BAD, stall, range(0, 365), range(1, 999), range(0, 999)),
                new Row("sales", BAD, way, stall, sort, range(1, 200)),
                new Row("score", NO, range(0, 6), bag),
                new Row("keep", BAD, part),
                new Row("back", BAD, part),
                new Row("count", BAD, range(0, 7)));
    }

    private static int[] edges(int[] range) {
        if (range == ANY) {
            return new int[] {Check.LEAST, -1, 0, 1, Check.MOST};
        }
        return new int[] {range[0] - 1, range[0], range[1], range[1] + 1, Check.LEAST, Check.MOST};
    }

    private static void tryRow(Stage stage, Row row) throws ReflectiveOperationException {
        Method method = method(row.name);
        int count = row.ranges.length;
        int[] first = new int[count];
        for (int p = 0; p < count; p++) {
            first[p] = row.ranges[p] == ANY ? 1 : row.ranges[p][0];
        }
        for (int p = 0; p < count; p++) {
            for (int one : edges(row.ranges[p])) {
                for (int q = p; q < count; q++) {
                    for (int other : q == p ? new int[] {one} : edges(row.ranges[q])) {
                        int[] numbers = first.clone();
                        numbers[p] = one;
                        numbers[q] = other;
                        tryCall(stage, row, method, numbers);
                    }
                }
            }
        }
    }

    private static void tryCall(Stage stage, Row row, Method method, int[] numbers) {
        String what = row.name + Arrays.toString(numbers);
        Stage.Call call = x -> invoke(method, x, numbers);
        if (asTold(row, numbers)) {
            Check.holds(what + " is BAD, but its numbers are as told", call.on(stage.make()) != row.bad);
        } else {
            Check.refused(stage, what, row.bad, call);
        }
    }

    private static boolean asTold(Row row, int[] numbers) {
        for (int p = 0; p < numbers.length; p++) {
            if (numbers[p] < row.ranges[p][0] || numbers[p] > row.ranges[p][1]) {
                return false;
            }
        }
        return true;
    }

    private static Method method(String name) {
        for (Method method : ThumbScale.class.getMethods()) {
            if (method.getName().equals(name)) {
                return method;
            }
        }
        throw new IllegalStateException(name);
    }

    private static long invoke(Method method, ThumbScale x, int[] numbers) {
        List<Object> arguments = new ArrayList<>();
        for (int i = 0; i < numbers.length; i++) {
            if (method.getParameterTypes()[i] == long.class) {
                arguments.add((long) numbers[i]);
            } else {
                arguments.add(numbers[i]);
            }
        }
        try {
            return ((Number) method.invoke(x, arguments.toArray())).longValue();
        } catch (InvocationTargetException | IllegalAccessException e) {
            throw new IllegalStateException(method.getName() + Arrays.toString(numbers), e);
        }
    }

    /** Calls whose second number's edges hang on the first. */
    private static void bars() {
        int[] least = {0, 0, 1, 1, 0, 0, 0, 1};
        int[] most = {10, 10, 9, 9, 999, 999, 99, 8};
        for (int k = 0; k < 8; k++) {
            int bar = k;
            for (int v : edges(range(least[k], most[k]))) {
                if (v >= least[k] && v <= most[k]) {
                    Check.holds("bar " + k + " of " + v, Scenes.BUSY.make().bar(k, v) != BAD);
                } else {
                    Check.refused(Scenes.BUSY, "bar " + k + " of " + v, BAD, x -> x.bar(bar, v));
                }
            }
        }
        int n = Scenes.BUSY.make().bar(7, 1);
        for (int bags : edges(range(0, n))) {
            for (int tooShort : edges(range(0, Math.max(0, Math.min(n, bags))))) {
                String what = bags + " BAGS, " + tooShort + " short";
                if (bags >= 0 && bags <= n && tooShort >= 0 && tooShort <= bags) {
                    Check.holds(what, Scenes.BUSY.make().done(bags, tooShort) != BAD);
                    Check.holds(what, Scenes.BUSY.make().cost(bags, tooShort) != NO);
                } else {
                    Check.refused(Scenes.BUSY, what, BAD, x -> x.done(bags, tooShort));
                    Check.refused(Scenes.BUSY, what, NO, x -> x.cost(bags, tooShort));
                }
            }
        }
    }
}
