import java.io.IOException;
import java.nio.file.Files;
import java.nio.file.Path;
import java.util.regex.Matcher;
import java.util.regex.Pattern;

/** What can be seen of ../shared/LANGUAGE.md in the text of the class. */
final class LanguageTest {
    private static final String[] NONE_OF = {
        "package", "finally", "synchronized", "assert", "Thread", "Random", "Object", "protected", "volatile", "native",
        "hashCode", "getMessage", "System\\.(?!arraycopy)\\w+", "(Math|Long|Integer)\\.\\w+Exact", "::", "@(?!Override)\\w+", "\\) ->", "\\w+Exception \\{",
    };

    public static void main(String[] args) throws IOException {
        Check check = new Check();
        check.about("the language");
        String source = Files.readString(Path.of("src/main/java/TokenNet.java"));
        for (int i = 0; i < source.length(); i++) {
            if (source.charAt(i) > 127) {
                check.fail("a sign beyond 127 at " + i);
            }
        }
        String code = source.replaceAll("(?s)/\\*.*?\\*/", "").replaceAll("//[^\n]*", "").replaceAll("\"[^\"]*\"", "\"\"");
        for (String word : NONE_OF) {
            String edge = Character.isLetter(word.charAt(0)) ? "\\b" : "";
            Matcher found = Pattern.compile(edge + word + edge).matcher(code);
            if (found.find()) {
                check.fail("the class uses " + found.group());
            }
        }
        lengths(check, source);
        check.due("classes, some twelve at most", count(code, "\\bclass \\w+ ") <= 15 ? 1 : 0, 1);
        check.end();
    }

    private static int count(String code, String pattern) {
        Matcher found = Pattern.compile(pattern).matcher(code);
        int count = 0;
        while (found.find()) {
            count++;
        }
        return count;
    }

    /** A method begins with its head at one or two steps in and ends with its brace there. */
    private static void lengths(Check check, String source) {
        String[] lines = source.split("\n");
        Pattern head = Pattern.compile("^( {4}| {8})\\S.*\\)( \\{)$");
        for (int i = 0; i < lines.length; i++) {
            Matcher found = head.matcher(lines[i]);
            if (!found.find()) {
                continue;
            }
            int end = i;
            while (end < lines.length - 1 && !lines[end].equals(found.group(1) + "}")) {
                end++;
            }
            if (end - i > 70) {
                check.fail("more than some sixty lines: " + lines[i].trim());
            }
            if (lines[i].split(",").length > 7) {
                check.fail("more than seven parameters: " + lines[i].trim());
            }
        }
    }
}
