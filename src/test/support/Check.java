import java.io.IOException;
import java.nio.file.Files;
import java.nio.file.Path;

/** Counts what is right and wrong, under the sentence of the document that is being looked at. */
final class Check {
    static final int BAD = ThumbScale.BAD;
    static final int STATE = ThumbScale.STATE;
    static final int FULL = ThumbScale.FULL;
    static final int NONE = ThumbScale.NONE;
    static final long NO = ThumbScale.NO;
    static final int LEAST = Integer.MIN_VALUE;
    static final int MOST = Integer.MAX_VALUE;

    private static final int SHOWN = 40;

    private static String document;
    private static int promise;
    private static String sentence;
    private static int sentences;
    private static int checks;
    private static int wrong;

    private Check() {
    }

    /** A sentence must stand in the document as it is told here, so that no test asks for what isn't promised. */
    static void sentence(int itsPromise, String words) {
        promise = itsPromise;
        sentence = words;
        sentences++;
        if (!documentText().contains(oneBlank(words))) {
            say("the document doesn't have that sentence");
        }
    }

    static void is(String what, long got, long want) {
        checks++;
        if (got != want) {
            say(what + " answered " + got + ", due is " + want);
        }
    }

    static void holds(String what, boolean right) {
        checks++;
        if (!right) {
            say(what);
        }
    }

    /** The answer that is due, and, by later calls, nothing changed. */
    static void refused(Stage stage, String what, long due, Stage.Call call) {
        is(what, call.on(stage.make()), due);
        checks++;
        String change = stage.changedBy(call);
        if (change != null) {
            say(what + " was refused, but changed: " + change);
        }
    }

    /** Two ways that must lead to the same object, as far as calls can tell. */
    static void same(String what, Stage one, Stage other) {
        checks++;
        String difference = one.differenceFrom(other);
        if (difference != null) {
            say(what + ": " + difference);
        }
    }

    static void end(String name) {
        System.out.println(name + ": " + sentences + " sentences, " + checks + " checks, " + wrong + " wrong");
        if (wrong != 0 || checks == 0) {
            System.exit(1);
        }
    }

    private static void say(String what) {
        wrong++;
        if (wrong <= SHOWN) {
            System.out.println("promise " + promise + ", \"" + sentence + "\": " + what);
        }
    }

    private static String oneBlank(String words) {
        return words.replaceAll("\\s+", " ");
    }

    private static String documentText() {
        if (document == null) {
            try {
                document = oneBlank(Files.readString(Path.of("../shared/DOC.md")));
            } catch (IOException e) {
                document = "";
            }
        }
        return document;
    }
}
