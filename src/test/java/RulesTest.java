import java.io.IOException;
import java.nio.file.Files;
import java.nio.file.Path;
import java.util.regex.Matcher;
import java.util.regex.Pattern;

/** What of LANGUAGE.md can be seen in the program's text by a plain search; it is run from the project's folder. */
public final class RulesTest {
    private static int wrong = 0;

    public static void main(String[] args) throws IOException {
        String text = Files.readString(Path.of("src/main/java/BellOfLies.java"));
        String code = text.replaceAll("(?s)/\\*.*?\\*/", "").replaceAll("//[^\n]*", "");
        absent(code, "\\b(throw|throws|try|catch|finally|synchronized|assert|protected|package|volatile|instanceof|long\\[\\]\\[\\])\\b");
        absent(code, "->|::|@|\\bvar\\b|\\bimport\\b|\\bObject\\b|\\bSystem\\.(?!arraycopy)|\\bMath\\.\\w*Exact");
        absent(code, "\"\\s*\\+|\\+\\s*\"");
        absent(code, "\\bwhile\\b|for\\s*\\(\\s*;\\s*;");
        absent(code, "[^\\x00-\\x7f]");
        Matcher statics = Pattern.compile("\\bstatic (?!final|class|int \\w+\\(|long \\w+\\(|boolean \\w+\\(|String \\w+\\()[^\n]*").matcher(code);
        while (statics.find()) {
            say("a static that is neither final nor a method: " + statics.group());
        }
        methods(code);
        System.out.println(wrong == 0 ? "the rules that can be searched for hold" : wrong + " rules do not hold");
        if (wrong != 0) {
            System.exit(1);
        }
    }

    private static void absent(String code, String pattern) {
        Matcher m = Pattern.compile(pattern).matcher(code);
        while (m.find()) {
            say("it has " + m.group());
        }
    }

    private static void methods(String code) {
        Matcher m = Pattern.compile("(?m)^( {4}| {8})(?:(?:public|private|static) )*(?:int|long|boolean|void|String) (\\w+)\\(([^)]*)\\) \\{\n").matcher(code);
        int found = 0;
        while (m.find()) {
            found++;
            int end = code.indexOf("\n" + m.group(1) + "}\n", m.end() - 1);
            int lines = code.substring(m.end(), Math.max(end, m.end())).split("\n").length;
            if (end < 0 || lines > 60) {
                say("a method is long: " + m.group(2) + ", " + lines + " lines");
            }
            if (m.group(3).split(",").length > 7) {
                say("a method takes more than seven parameters: " + m.group(2));
            }
        }
        if (found < 80) {
            say("the search found only " + found + " methods");
        }
    }

    private static void say(String what) {
        wrong++;
        System.out.println(what);
    }
}
