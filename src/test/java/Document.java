import java.io.IOException;
import java.nio.file.Files;
import java.nio.file.Path;
import java.util.ArrayList;
import java.util.LinkedHashSet;
import java.util.List;
import java.util.Set;
import java.util.TreeSet;
import java.util.regex.Matcher;
import java.util.regex.Pattern;

/** What the tests read in ../shared/DOC.md: its sentences, its examples and the public face. */
final class Document {
    private static final Path PLACE = Path.of("..", "shared", "DOC.md");
    private static final Pattern PROMISE = Pattern.compile("## Promise (\\d+):.*");
    private static final Pattern SIGNATURE = Pattern.compile("`[^`]*`");
    private static final Pattern TITLE = Pattern.compile("\\w+( text)?\\.");
    private static final Pattern METHOD =
            Pattern.compile("    public (\\w+) (\\w+)\\(([^)]*)\\)(?: throws (.*))?;");
    private static final int ELSEWHERE = -1;

    private Document() {
    }

    static boolean isThere() {
        return Files.isReadable(PLACE);
    }

    static String key(int promise, String words) {
        return promise + " " + words;
    }

    /** The examples as they stand there, a line each: "1. Title: call = answer; ... .". */
    static List<String> examples() throws IOException {
        List<String> examples = new ArrayList<>();
        boolean inside = false;
        for (String line : Files.readAllLines(PLACE)) {
            if (line.startsWith("Examples:")) {
                inside = true;
            } else if (line.isEmpty()) {
                inside = false;
            } else if (inside) {
                examples.add(line);
            }
        }
        return examples;
    }

    /** The methods of the public face: "int power(int,int) IndexOutOfBoundsException". */
    static Set<String> face() throws IOException {
        Set<String> face = new TreeSet<>();
        for (String line : Files.readAllLines(PLACE)) {
            Matcher method = METHOD.matcher(line);
            if (method.matches()) {
                String types = method.group(3).replaceAll("(\\w+) \\w+", "$1").replace(" ", "");
                String exceptions = method.group(4) == null ? "" : method.group(4);
                face.add(method.group(1) + " " + method.group(2) + "(" + types + ") "
                        + exceptions.replace(" ", ""));
            }
        }
        return face;
    }

    /** The sentences, each as its promise's number, a blank and its words. */
    static Set<String> sentences() throws IOException {
        Set<String> all = new LinkedHashSet<>();
        int promise = ELSEWHERE;
        for (String line : Files.readAllLines(PLACE)) {
            promise = promiseFrom(line, promise);
            if (promise != ELSEWHERE && hasWords(line)) {
                for (String words : line.split("(?<=[.)]) (?=[A-Z(])")) {
                    all.add(key(promise, words));
                }
            }
        }
        all.removeIf(key -> TITLE.matcher(key.substring(key.indexOf(' ') + 1)).matches());
        return all;
    }

    /** The examples, the constants and the face have tests of their own. */
    private static int promiseFrom(String line, int before) {
        Matcher heading = PROMISE.matcher(line);
        if (heading.matches()) {
            return Integer.parseInt(heading.group(1));
        }
        if (line.equals("## Description")) {
            return 0;
        }
        return line.startsWith("## ") || line.startsWith("Examples:") ? ELSEWHERE : before;
    }

    private static boolean hasWords(String line) {
        return !line.isEmpty() && !line.startsWith("## ") && !line.startsWith("----")
                && !SIGNATURE.matcher(line).matches();
    }
}
