import java.io.IOException;
import java.lang.reflect.Method;
import java.lang.reflect.Modifier;
import java.nio.file.Files;
import java.nio.file.Path;
import java.util.List;
import java.util.regex.Matcher;
import java.util.regex.Pattern;
import java.util.stream.Stream;

/** README.md: its example answers what its comments say, and it names every call and every test. */
final class ReadmeTest {
    private static final Pattern TOLD = Pattern.compile("^(net\\.\\w+\\(.*\\)); +// (-?\\d+|'.')(?!\\w).*$");

    public static void main(String[] args) throws IOException {
        Check check = new Check();
        check.about("README.md");
        String page = Files.readString(Path.of("README.md"));
        example(check, page);
        for (Method method : TokenNet.class.getDeclaredMethods()) {
            boolean isNamed = Pattern.compile("[`.]" + method.getName() + "\\(").matcher(page).find();
            if (Modifier.isPublic(method.getModifiers()) && !isNamed) {
                check.fail("does not name " + method.getName());
            }
        }
        try (Stream<Path> files = Files.list(Path.of("src/test/java"))) {
            for (Path file : files.filter(file -> file.toString().endsWith("Test.java")).toList()) {
                String name = file.getFileName().toString().replace(".java", "");
                if (!page.contains("`" + name)) {
                    check.fail("does not name " + name);
                }
            }
        }
        check.end();
    }

    private static void example(Check check, String page) throws IOException {
        Matcher block = Pattern.compile("(?s)```java\n(.*?)```").matcher(page);
        if (!block.find()) {
            check.fail("has no example");
            return;
        }
        int calls = 0;
        StringBuilder text = new StringBuilder(Files.readString(Path.of("src/main/java/TokenNet.java")));
        text.append("final class Example {\nstatic int wrong(String about) {\nCheck check = new Check();\ncheck.about(about);\n");
        for (String line : List.of(block.group(1).split("\n"))) {
            Matcher told = TOLD.matcher(line);
            if (told.matches()) {
                calls++;
                String due = "check.due(\"%s\", %s, %s);\n";
                text.append(String.format(due, told.group(1).replace("\"", "\\\""), told.group(1), told.group(2)));
            } else {
                text.append(line).append('\n');
            }
        }
        text.append("return check.wrong();\n}\n}\n");
        text.append(Files.readString(Path.of("src/test/java/Check.java")));
        Compiled classes = new Compiled(text.toString());
        check.due("the example is Java", classes.isRight() ? 1 : 0, 1);
        if (classes.isRight()) {
            check.due("wrong answers of the example", classes.answer("Example", "wrong", "README.md"), 0);
        }
        check.due("the example has answers", calls >= 10 ? 1 : 0, 1);
    }
}
