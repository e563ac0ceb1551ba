import java.io.IOException;
import java.lang.reflect.Constructor;
import java.lang.reflect.Field;
import java.lang.reflect.Method;
import java.lang.reflect.Modifier;
import java.util.Arrays;
import java.util.Set;
import java.util.TreeSet;

/** The public face of the document, and rule 1 of LANGUAGE.md. */
public final class FaceTest {
    private static final String[] FACE = {
        "int setChannels(int) IllegalArgumentException",
        "int setPending(int,int) IndexOutOfBoundsException,IllegalArgumentException",
        "int advance() ",
        "int append(int) IllegalArgumentException,IllegalStateException",
        "int clearInput() ",
        "int firstError() ",
        "int load() IllegalStateException",
        "int inject(int,int,int) IndexOutOfBoundsException,IllegalArgumentException",
        "int power(int,int) IndexOutOfBoundsException",
        "int count(int) IllegalArgumentException",
        "boolean setMasked(int,boolean) IndexOutOfBoundsException",
        "int channelSum(int) IndexOutOfBoundsException",
        "int strike(int) IllegalArgumentException",
        "int offset(int,int,boolean) IndexOutOfBoundsException",
        "int bend(int) IndexOutOfBoundsException",
        "int lineSum(int,int,boolean) IndexOutOfBoundsException",
        "double mean(int) IndexOutOfBoundsException",
        "int boxSum(int,int,int) IllegalArgumentException,IndexOutOfBoundsException",
        "long score(int,int,int) IllegalArgumentException,IndexOutOfBoundsException",
        "int find(long,int) IllegalArgumentException",
        "long candidate(int,int) IndexOutOfBoundsException,IllegalArgumentException",
        "int candidateAt(int) IndexOutOfBoundsException",
        "long digest() ",
    };

    private FaceTest() {
    }

    private static String names(Class<?>[] types) {
        StringBuilder out = new StringBuilder();
        for (Class<?> type : types) {
            out.append(out.length() == 0 ? "" : ",").append(type.getSimpleName());
        }
        return out.toString();
    }

    private static String describe(Method m) {
        return m.getReturnType().getSimpleName() + " " + m.getName()
                + "(" + names(m.getParameterTypes()) + ") " + names(m.getExceptionTypes());
    }

    private static Set<String> openMethods() {
        Set<String> open = new TreeSet<>();
        for (Method m : BurstFinder.class.getDeclaredMethods()) {
            if (!Modifier.isPrivate(m.getModifiers())) {
                open.add((Modifier.isPublic(m.getModifiers()) ? "" : "not public: ") + describe(m));
            }
        }
        return open;
    }

    private static Set<String> openFields() {
        Set<String> open = new TreeSet<>();
        for (Field f : BurstFinder.class.getDeclaredFields()) {
            if (!Modifier.isPrivate(f.getModifiers())) {
                open.add(Modifier.toString(f.getModifiers()) + " " + f.getType() + " " + f.getName());
            }
        }
        return open;
    }

    private static Set<String> sharedNames() {
        Set<String> names = new TreeSet<>();
        for (Method hidden : BurstFinder.class.getDeclaredMethods()) {
            for (Method open : BurstFinder.class.getDeclaredMethods()) {
                if (Modifier.isPrivate(hidden.getModifiers())
                        && Modifier.isPublic(open.getModifiers())
                        && hidden.getName().equals(open.getName())) {
                    names.add(hidden.getName());
                }
            }
        }
        return names;
    }

    public static void main(String[] args) throws IOException {
        Class<?> c = BurstFinder.class;
        Check.due("the class is public and final", Modifier.PUBLIC | Modifier.FINAL, c::getModifiers);
        Check.due("the methods", new TreeSet<>(Arrays.asList(FACE)), FaceTest::openMethods);
        if (Document.isThere()) {
            Check.due("the document's methods", Document.face(), FaceTest::openMethods);
        } else {
            System.out.println("FaceTest: no document to read the face in");
        }
        Check.due("the constants", Set.of("public static final int NONE"), FaceTest::openFields);
        Check.due("NONE", -1, () -> BurstFinder.NONE);
        Constructor<?>[] constructors = c.getDeclaredConstructors();
        Check.due("how many constructors", 1, () -> constructors.length);
        Check.due("its parameters", "", () -> names(constructors[0].getParameterTypes()));
        Check.due("it is public", Modifier.PUBLIC, () -> constructors[0].getModifiers());
        Check.due("private methods with a public one's name", Set.of(), FaceTest::sharedNames);
        for (Class<?> inside : c.getDeclaredClasses()) {
            Check.due(inside + " is static", true, () -> Modifier.isStatic(inside.getModifiers()));
        }
        Check.finish("FaceTest");
    }
}
