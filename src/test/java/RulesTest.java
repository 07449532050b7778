import java.io.IOException;
import java.nio.file.Files;
import java.nio.file.Path;
import java.util.List;
import java.util.Set;
import java.util.regex.Matcher;
import java.util.regex.Pattern;

/** Those rules of LANGUAGE.md that can be seen in the source's words; run from the project's folder. */
public final class RulesTest {
    private static final Path SOURCE = Path.of("src/main/java/ThumbScale.java");
    private static final Set<String> LIBRARY = Set.of("Math.abs", "Math.min", "Math.max", "Math.floorDiv",
            "Integer.MIN_VALUE");

    private static int wrong;

    public static void main(String[] args) throws IOException {
        String source = Files.readString(SOURCE);
        String code = withoutCommentsAndTexts(source);
        for (String word : List.of("throw", "throws", "try", "catch", "synchronized", "assert", "import", "package",
                "double", "float", "volatile", "transient", "native", "System", "Object", "Exception", "Thread",
                "equals", "hashCode", "toString", "var", "yield", "instanceof")) {
            refuse(code, "\\b" + word + "\\b");
        }
        refuse(code, "->");
        refuse(code, "::");
        refuse(code, "static\\s*\\{");
        refuse(code, "\\w+Exact\\b");
        refuse(source, "[^\\x00-\\x7f]");
        onlyThisLibrary(code);
        methods(code);
        System.out.println("RulesTest: " + wrong + " wrong");
        if (wrong != 0) {
            System.exit(1);
        }
    }

    private static void say(String what) {
        wrong++;
        System.out.println(what);
    }

    private static String withoutCommentsAndTexts(String source) {
        return source.replaceAll("(?s)/\\*.*?\\*/", "").replaceAll("//[^\n]*", "").replaceAll("\"[^\"\n]*\"", "\"\"")
                .replaceAll("'.'", "0");
    }

    private static void refuse(String code, String pattern) {
        Matcher m = Pattern.compile(pattern).matcher(code);
        if (m.find()) {
            say("the source has " + m.group());
        }
    }

    private static void onlyThisLibrary(String code) {
        Matcher m = Pattern.compile("\\b(?:Math|Integer|Long|String|Arrays|System|Character)\\.\\w+").matcher(code);
        while (m.find()) {
            if (!LIBRARY.contains(m.group())) {
                say("the source uses " + m.group());
            }
        }
    }

    /** A method stays under sixty lines, and makes nothing unless it is a constructor. */
    private static void methods(String code) {
        Matcher m = Pattern.compile("(?m)^( {4}| {8})((?:public |private |static )*)(\\w[\\w\\[\\]]* )?(\\w+)\\([^)]*\\) \\{\n(.*?)^\\1\\}",
                Pattern.DOTALL | Pattern.MULTILINE).matcher(code);
        int methods = 0;
        while (m.find()) {
            methods++;
            String name = m.group(4);
            boolean constructor = m.group(3) == null;
            if (m.group(5).lines().count() > 60) {
                say(name + " is longer than sixty lines");
            }
            if (!constructor && m.group(5).matches("(?s).*\\bnew\\b.*")) {
                say(name + " makes an object or a row");
            }
        }
        if (methods < 100) {
            say("only " + methods + " methods were found");
        }
    }
}
