import java.io.IOException;
import java.lang.reflect.Method;
import java.lang.reflect.Modifier;
import java.nio.file.DirectoryStream;
import java.nio.file.Files;
import java.nio.file.Path;
import java.util.regex.Matcher;
import java.util.regex.Pattern;

/** README.md: the answers of its example are the ones that come, and it names every call and every test. */
public final class ReadmeTest {
    private static final Pattern CALL = Pattern.compile("x\\.(\\w+\\([^)]*\\)); +// (-?\\d+)\\b.*");
    private static final Pattern TEXT = Pattern.compile("for .*\"(\\w+)\"\\.toCharArray\\(\\)\\) x\\.write\\(c\\);");

    private static final Checks checks = new Checks();

    public static void main(String[] args) throws IOException {
        String page = Files.readString(Path.of("README.md"));
        Matcher example = Pattern.compile("(?s)```java\n(.*?)```").matcher(page);
        checks.isTrue("there is an example", example.find());
        play(example.group(1));
        namesEveryCall(example.group(1));
        namesEveryTest(page);
        checks.isTrue("tells how to run the tests", page.contains("```sh\n.ci/run\n```"));
        checks.finish("ReadmeTest");
    }

    private static void play(String example) {
        TenArrows x = new TenArrows();
        for (String line : example.split("\n")) {
            Matcher text = TEXT.matcher(line);
            Matcher call = CALL.matcher(line);
            if (text.matches()) {
                text.group(1).chars().forEach(x::write);
            } else if (call.matches()) {
                String told = call.group(1).replace(" ", "");
                checks.due(told, Long.parseLong(call.group(2)), Script.call(x, told));
            } else {
                checks.isTrue("a row that says nothing: " + line,
                    line.isEmpty() || line.startsWith("//") || line.equals("TenArrows x = new TenArrows();"));
            }
        }
    }

    private static void namesEveryCall(String example) {
        for (Method method : TenArrows.class.getDeclaredMethods()) {
            if (Modifier.isPublic(method.getModifiers())) {
                checks.isTrue("names " + method.getName(), example.contains("x." + method.getName() + "("));
            }
        }
    }

    private static void namesEveryTest(String page) throws IOException {
        try (DirectoryStream<Path> tests = Files.newDirectoryStream(Path.of("src/test/java"), "*Test.java")) {
            for (Path test : tests) {
                String name = test.getFileName().toString().replace(".java", "");
                checks.isTrue("names " + name, page.contains("`" + name + "`"));
            }
        }
    }
}
