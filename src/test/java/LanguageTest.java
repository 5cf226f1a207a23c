import java.io.IOException;
import java.nio.file.Files;
import java.nio.file.Path;
import java.util.regex.Matcher;
import java.util.regex.Pattern;

/** Some rules of ../shared/LANGUAGE.md that can be seen from the program's text; run from the project's folder. */
final class LanguageTest {
    private LanguageTest() {
    }

    public static void main(String[] args) throws IOException {
        String text = Files.readString(Path.of("src/main/java/WrongRoom.java"));
        String code = text.replaceAll("/\\*\\*.*?\\*/", "").replaceAll("//[^\n]*", "");
        String[] outside = {"->", "::", "\\bfinally\\b", "\\bsynchronized\\b", "\\bassert\\b", "\\btry\\b", "\\bcatch\\b",
            "Exact\\(", "\\bnew Random\\b", "\\bSystem\\.(?!arraycopy)", "\\bpackage\\b", "\\bprotected\\b",
            "import (?!java\\.util\\.NoSuchElementException;)", "\\bstatic \\{", "\\bvar\\b", "\\bnull\\b",
            "\"\\s*\\+|\\+\\s*\"", "[^\\x00-\\x7f]", "\\bstatic (?!final |class )\\w+(\\[\\])? \\w+( =|;)"};
        for (String rule : outside) {
            Matcher m = Pattern.compile(rule).matcher(code);
            Check.due("\"" + rule + "\" stands in the program", m.find(), false);
        }
        int classes = code.split("\\bclass \\w").length - 1;
        Check.due("so many classes: " + classes, classes <= 12, true);
        methods(code);
        Check.end();
    }

    private static void methods(String code) {
        Matcher m = Pattern.compile("(?m)^( +)[\\w\\[\\] ]+\\(([^)]*)\\)[\\w ]*\\{$(.*?)^\\1\\}", Pattern.DOTALL).matcher(code);
        int found = 0;
        while (m.find()) {
            int lines = m.group(3).split("\n").length;
            Check.due("lines of " + m.group().split("\n")[0], lines <= 60, true);
            Check.due("parameters of " + m.group().split("\n")[0], m.group(2).split(",").length <= 7, true);
            found++;
        }
        Check.due("methods are found", found > 100, true);
    }
}
