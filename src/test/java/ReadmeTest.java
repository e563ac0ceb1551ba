import java.io.IOException;
import java.lang.reflect.Method;
import java.lang.reflect.Modifier;
import java.nio.file.Files;
import java.nio.file.Path;
import java.util.regex.Matcher;
import java.util.regex.Pattern;

/** README.md: its example answers as it says, and it names each call of the class and each test. */
public final class ReadmeTest {
    private static final Path README = Path.of("README.md");
    private static final Path TESTS = Path.of("src", "test", "java");
    private static final Pattern CALL =
            Pattern.compile("finder\\.(\\w+\\(.*\\)); +// (throws \\w+|\\S+)( .*)?");

    private ReadmeTest() {
    }

    private static void example() throws IOException {
        BurstFinder x = new BurstFinder();
        int before = Check.made();
        int calls = 0;
        for (String line : Files.readAllLines(README)) {
            Matcher call = CALL.matcher(line);
            if (call.matches()) {
                Written.due(x, "README", call.group(1), call.group(2));
            }
            calls += line.startsWith("finder.") ? 1 : 0;
        }
        int read = Check.made() - before;
        int there = calls;
        Check.due("calls with an answer", there, () -> read);
        Check.due("there is an example", true, () -> there > 0);
    }

    private static void names() throws IOException {
        String text = Files.readString(README);
        for (Method method : BurstFinder.class.getDeclaredMethods()) {
            if (Modifier.isPublic(method.getModifiers())) {
                Check.due("it names " + method.getName(), true,
                        () -> text.contains("| `" + method.getName() + "("));
            }
        }
        try (var files = Files.list(TESTS)) {
            files.map(file -> file.getFileName().toString().replace(".java", ""))
                    .forEach(name -> Check.due("it names " + name, true,
                            () -> Pattern.compile("\\b" + name + "\\b").matcher(text).find()));
        }
    }

    public static void main(String[] args) throws IOException {
        example();
        names();
        Check.finish("ReadmeTest");
    }
}
