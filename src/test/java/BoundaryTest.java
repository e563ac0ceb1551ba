import java.io.IOException;
import java.lang.reflect.InvocationTargetException;
import java.lang.reflect.Method;
import java.util.Arrays;
import java.util.Comparator;
import java.util.Set;
import java.util.TreeSet;

/**
 * Runs the tests of the boundary cases, each of which belongs to one sentence of the document, and
 * compares these sentences with the document's: none may be without a test unless it is listed here
 * as one that names no boundary case.
 */
public final class BoundaryTest {
    private static final Class<?>[] EDGES = {EdgesOfDescription.class, EdgesOfData.class,
        EdgesOfInterference.class, EdgesOfLines.class, EdgesOfBoxes.class, EdgesOfDigest.class};

    /** They tell what a call is for, or name an argument whose edges another sentence tells. */
    private static final Set<String> WITHOUT_EDGE = Set.of(
            "0 The tree offsets of a slope are defined by halving.",
            "0 The score of a box is computed as follows.",
            "0 (So the score is 1000 times the square of the excess in standard deviations.)",
            "3 Sets a power of the pending column.",
            "3 - `channel`: a channel",
            "5 Appends a character to the input buffer.",
            "5 - `code`: the character code",
            "9 - `slope`: the slope",
            "9 - `column`: the column t",
            "10 Returns a power of the data.",
            "10 - `channel`: a channel",
            "10 - `column`: a column",
            "10 Returns the power.",
            "11 Returns a number.",
            "11 Returns the number.",
            "12 - `channel`: a channel",
            "13 Returns the sum.",
            "15 Returns an offset.",
            "15 - `slope`: a slope",
            "15 - `channel`: a channel",
            "15 Returns the offset.",
            "16 Returns the bend of a slope.",
            "16 - `slope`: a slope",
            "17 Returns a line sum or a straight sum.",
            "17 - `slope`: a slope",
            "17 Returns the sum.",
            "18 Returns the mean of the line sums of a slope.",
            "18 - `slope`: a slope",
            "19 Returns a box sum.",
            "19 - `slope`: a slope",
            "19 Returns the sum.",
            "20 Returns the score of a box.",
            "20 - `slope`: a slope",
            "20 Returns the score.",
            "22 Returns a property of a candidate.",
            "22 Returns the property.",
            "23 - `column`: a column",
            "24 Returns the hash.");

    private BoundaryTest() {
    }

    private static void run(Method test) {
        String place = test.getDeclaringClass().getSimpleName() + "." + test.getName();
        Check.begin(place);
        int before = Check.made();
        Check.due("the test itself", "ran to its end", () -> outcome(test));
        Check.due("it checks something", true, () -> Check.made() > before + 2);
        Check.begin("");
    }

    private static String outcome(Method test) {
        try {
            test.invoke(null);
            return "ran to its end";
        } catch (InvocationTargetException e) {
            return "threw " + e.getCause();
        } catch (IllegalAccessException e) {
            return "is not open to this class";
        }
    }

    /** Runs all tests and returns the keys of their sentences. */
    private static Set<String> runAll() {
        Set<String> tested = new TreeSet<>();
        for (Class<?> edges : EDGES) {
            Method[] methods = edges.getDeclaredMethods();
            Arrays.sort(methods, Comparator.comparing(Method::getName));
            for (Method method : methods) {
                Sentence sentence = method.getAnnotation(Sentence.class);
                if (sentence != null) {
                    tested.add(Document.key(sentence.promise(), sentence.says()));
                    run(method);
                }
            }
        }
        return tested;
    }

    private static Set<String> less(Set<String> all, Set<String> known) {
        Set<String> left = new TreeSet<>(all);
        left.removeAll(known);
        return left;
    }

    private static void compareWithDocument(Set<String> tested) throws IOException {
        Set<String> document = Document.sentences();
        Set<String> untested = less(less(document, tested), WITHOUT_EDGE);
        Check.due("sentences without a test", Set.of(), () -> untested);
        Check.due("tests without a sentence", Set.of(), () -> less(tested, document));
        Check.due("listed here without need", Set.of(),
                () -> less(WITHOUT_EDGE, less(document, tested)));
    }

    public static void main(String[] args) throws IOException {
        Set<String> tested = runAll();
        System.out.println("BoundaryTest: " + tested.size() + " sentences");
        if (Document.isThere()) {
            compareWithDocument(tested);
        } else {
            System.out.println("BoundaryTest: no document to compare the sentences with");
        }
        Check.finish("BoundaryTest");
    }
}
