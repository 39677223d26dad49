import java.io.IOException;
import java.lang.reflect.Field;
import java.lang.reflect.Method;
import java.lang.reflect.Modifier;
import java.nio.file.Files;
import java.nio.file.Path;
import java.util.Arrays;
import java.util.Set;
import java.util.TreeSet;
import java.util.regex.Pattern;

/** The document's face, no less and no more, and those rules of LANGUAGE.md that can be read off. */
public final class FaceTest {
    private static final String[] FACE = {
        "int tell(int)", "int untell()", "int plain(int)", "int twofold(int)", "int weighted(int)",
        "int turning(int,int)", "int divided(int,long,long,long,boolean,boolean)", "int square(int)", "int kind(int)",
        "int put(int)", "int set(int,int)", "int at(int)", "int cut(int)", "long sum(int)",
        "long joined(int,long,int,long,int)", "long other(int,long,int,int,int,int)", "long less(int,long,int,int)",
        "int sees(int,int,int,int)", "int passes(int,boolean)", "int signs(int,int)", "long syndrome(int,int,int)",
        "int weight(int,int)", "int lightest(int)", "int count(int,int,int)", "int period(int)", "int free(int)",
        "int bind()", "int aim(int,long)", "int way(int)", "int best(int,int)", "int mend(int,long)", "int reach(int)",
        "int trace(int)", "int about(int)"};

    private static final String[] CONSTANTS = {"NONE", "UNKNOWN", "OUTSIDE", "KIND", "NOT", "FULL"};

    private static final String[] FORBIDDEN = {"\\bthrow", "\\btry\\b", "\\bcatch\\b", "\\bsynchronized\\b",
        "\\bassert\\b", "->", "::", "Exact\\(", "\\bstatic\\s*\\{", "\\bpackage\\s+\\w+;", "@\\w+", "\\bprotected\\b",
        "\\bimport\\s+(?!java\\.util\\.Arrays;)", "\\b(System|Object|Thread|Random)\\b"};

    public static void main(String[] args) throws IOException {
        methods();
        constants();
        classes();
        words();
        Due.end();
    }

    private static String shapeOf(Method method) {
        StringBuilder shape = new StringBuilder(method.getReturnType() + " " + method.getName() + "(");
        String[] types = Arrays.stream(method.getParameterTypes()).map(Class::toString).toArray(String[]::new);
        return shape.append(String.join(",", types)).append(")").toString();
    }

    private static void methods() {
        Set<String> shapes = new TreeSet<>();
        Set<String> names = new TreeSet<>();
        Set<String> privateNames = new TreeSet<>();
        for (Method method : SumSmith.class.getDeclaredMethods()) {
            if (Modifier.isPrivate(method.getModifiers())) {
                privateNames.add(method.getName());
            } else {
                due(method + " is public", Modifier.isPublic(method.getModifiers()));
                shapes.add(shapeOf(method));
                names.add(method.getName());
            }
        }
        due("methods " + shapes, shapes.equals(new TreeSet<>(Arrays.asList(FACE))));
        for (Class<?> inner : SumSmith.class.getDeclaredClasses()) {
            for (Method method : inner.getDeclaredMethods()) {
                privateNames.add(method.getName());
            }
        }
        privateNames.retainAll(names);
        due("no private method has a public one's name " + privateNames, privateNames.isEmpty());
        due("one constructor", SumSmith.class.getDeclaredConstructors().length == 1);
        due("it is public", SumSmith.class.getConstructors().length == 1);
        due("final", Modifier.isFinal(SumSmith.class.getModifiers()));
    }

    private static void constants() {
        Set<String> open = new TreeSet<>();
        for (Field field : SumSmith.class.getDeclaredFields()) {
            if (!Modifier.isPrivate(field.getModifiers())) {
                open.add(field.getName());
            }
        }
        due("constants " + open, open.equals(new TreeSet<>(Arrays.asList(CONSTANTS))));
        Due.due("NONE", SumSmith.NONE, -1);
        Due.due("UNKNOWN", SumSmith.UNKNOWN, -2);
        Due.due("OUTSIDE", SumSmith.OUTSIDE, -3);
        Due.due("KIND", SumSmith.KIND, -4);
        Due.due("NOT", SumSmith.NOT, -5);
        Due.due("FULL", SumSmith.FULL, -6);
    }

    private static void classes() {
        Class<?>[] inner = SumSmith.class.getDeclaredClasses();
        due("twelve classes at most", inner.length + 1 <= 12);
        fieldsOf(SumSmith.class);
        for (Class<?> one : inner) {
            due(one + " is static", Modifier.isStatic(one.getModifiers()));
            due(one + " is not public", !Modifier.isPublic(one.getModifiers()));
            due(one + " has none inside", one.getDeclaredClasses().length == 0);
            fieldsOf(one);
        }
    }

    private static void fieldsOf(Class<?> one) {
        int fields = 0;
        for (Field field : one.getDeclaredFields()) {
            if (Modifier.isStatic(field.getModifiers())) {
                due(field + " is final", Modifier.isFinal(field.getModifiers()));
            } else {
                fields++;
            }
        }
        due(one + " has twenty fields at most", fields <= 20);
        for (Method method : one.getDeclaredMethods()) {
            due(method + " takes seven parameters at most", method.getParameterCount() <= 7);
        }
    }

    private static void words() throws IOException {
        String text = Files.readString(Path.of("src/main/java/SumSmith.java"));
        String code = text.replaceAll("(?s)/\\*.*?\\*/", " ").replaceAll("//[^\n]*", " ");
        for (String word : FORBIDDEN) {
            due("no " + word, !Pattern.compile(word).matcher(code).find());
        }
    }

    private static void due(String what, boolean holds) {
        Due.due(what, holds ? 1 : 0, 1);
    }
}
