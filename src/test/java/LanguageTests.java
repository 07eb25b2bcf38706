import java.io.IOException;
import java.nio.file.Files;
import java.nio.file.Path;
import java.util.List;
import java.util.regex.Matcher;
import java.util.regex.Pattern;

/** What of the rules of LANGUAGE.md can be read off the text of the program. */
final class LanguageTests {
    private static final Path PROGRAM = Path.of("src/main/java/ShelfSwarm.java");
    private static final String[] FORBIDDEN = {
        "->", "::", "\\bcatch\\b", "\\bfinally\\b", "\\bsynchronized\\b", "\\bassert\\b", "\\bprotected\\b",
        "\\bpackage\\b", "static \\{", "\\bObject\\b", "\\bThread\\b", "\\bSystem\\b", "\\bimport (?!java\\.util\\.ArrayList;)",
        "\\bequals\\b", "\\bhashCode\\b", "\\btoString\\b", "\\bdouble\\b", "\\bfloat\\b", "\\bwhile \\(true\\)"
    };

    private LanguageTests() {
    }

    static void run() throws IOException {
        List<String> lines = Files.readAllLines(PROGRAM);
        String code = withoutComments(String.join("\n", lines));
        for (String pattern : FORBIDDEN) {
            Check.due("the program has " + pattern, Pattern.compile(pattern).matcher(code).find(), false);
        }
        staticFields(code);
        classes(code);
        methods(lines);
    }

    private static String withoutComments(String text) {
        return text.replaceAll("(?s)/\\*.*?\\*/", "").replaceAll("//[^\n]*", "");
    }

    private static void staticFields(String code) {
        Matcher field = Pattern.compile("static (?!final )[^(;{=]*[;=]").matcher(code);
        Check.due("a static field is not final", field.find(), false);
    }

    private static void classes(String code) {
        int count = 0;
        Matcher declared = Pattern.compile("(?m)^ *((?:\\w+ )*)class (\\w+)").matcher(code);
        while (declared.find()) {
            count++;
            boolean isPublic = declared.group(1).contains("public");
            Check.due("class " + declared.group(2) + " is public", isPublic, count == 1);
            Check.due("class " + declared.group(2) + " is static", declared.group(1).contains("static"), count != 1);
        }
        Check.due("at most twelve classes", count >= 1 && count <= 12, true);
    }

    /** Methods are short: from their first line to the brace that closes them. */
    private static void methods(List<String> lines) {
        Pattern head = Pattern.compile("^( {4}| {8})(?!if|for|while|switch)\\w[\\w<> ]*\\((.*)\\) \\{$");
        for (int i = 0; i < lines.size(); i++) {
            Matcher matcher = head.matcher(lines.get(i));
            if (matcher.matches()) {
                int last = i;
                while (last < lines.size() && !lines.get(last).equals(matcher.group(1) + "}")) {
                    last++;
                }
                Check.due("the method in line " + (i + 1) + " is short", last - i < 60, true);
                Check.due("the method in line " + (i + 1) + " has few parameters",
                        matcher.group(2).split(",").length <= 7, true);
            }
        }
    }
}
