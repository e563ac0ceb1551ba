import java.io.IOException;
import java.nio.file.Files;
import java.nio.file.Path;
import java.util.LinkedHashSet;
import java.util.Set;
import java.util.regex.Matcher;
import java.util.regex.Pattern;

/** The sentences of ../shared/DOC.md, each as its promise's number, a blank and its words. */
final class Document {
    private static final Path PLACE = Path.of("..", "shared", "DOC.md");
    private static final Pattern PROMISE = Pattern.compile("## Promise (\\d+):.*");
    private static final Pattern SIGNATURE = Pattern.compile("`[^`]*`");
    private static final Pattern TITLE = Pattern.compile("\\w+( text)?\\.");
    private static final int ELSEWHERE = -1;

    private Document() {
    }

    static boolean isThere() {
        return Files.isReadable(PLACE);
    }

    static String key(int promise, String words) {
        return promise + " " + words;
    }

    static Set<String> sentences() throws IOException {
        Set<String> all = new LinkedHashSet<>();
        int promise = ELSEWHERE;
        for (String line : Files.readAllLines(PLACE)) {
            promise = promiseFrom(line, promise);
            if (promise != ELSEWHERE && hasWords(line)) {
                for (String words : line.split("(?<=[.)]) (?=[A-Z(])")) {
                    all.add(key(promise, words));
                }
            }
        }
        all.removeIf(key -> TITLE.matcher(key.substring(key.indexOf(' ') + 1)).matches());
        return all;
    }

    /** The examples, the constants and the face have tests of their own. */
    private static int promiseFrom(String line, int before) {
        Matcher heading = PROMISE.matcher(line);
        if (heading.matches()) {
            return Integer.parseInt(heading.group(1));
        }
        if (line.equals("## Description")) {
            return 0;
        }
        return line.startsWith("## ") || line.startsWith("Examples:") ? ELSEWHERE : before;
    }

    private static boolean hasWords(String line) {
        return !line.isEmpty() && !line.startsWith("## ") && !line.startsWith("----")
                && !SIGNATURE.matcher(line).matches();
    }
}
