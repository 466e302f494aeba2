import java.io.IOException;
import java.lang.reflect.Constructor;
import java.lang.reflect.Field;
import java.lang.reflect.Method;
import java.lang.reflect.Modifier;
import java.nio.file.Files;
import java.nio.file.Path;
import java.util.Arrays;
import java.util.TreeSet;

/** The face is the document's and nothing more, and the source keeps to the simplest rules of LANGUAGE.md. */
public final class FaceTests {
    private static final String[] FACE = {
        "int jar(int)", "int pour(int, int)", "int more(int)", "int throwAway(int)", "int rule(int)",
        "int drop(int)", "int price(int, int)", "int want(int)", "int serve()", "int type(char)",
        "int clearText()", "int fault()", "int doAll()", "int undo()", "int keep()", "int restore()",
        "int jarOf(int, int)", "int ranked(int)", "int ruleOf(int)", "int mixOf(int, int)",
        "int together(int, int)", "int alike(int, int, boolean)", "int shelf(int, int)", "int waiting(int)",
        "int count(int)", "double lost()", "int fewest(int, int)", "int makes()", "int needless()",
        "int ifPoured(int, int)"};
    private static final String[] CONSTANTS = {"UNKNOWN=-1", "BAD_VALUE=-2", "FULL=-3", "NONE=-5"};
    private static final String[] FORBIDDEN = {"synchronized", "assert", "finally", "->", "::", "instanceof",
        "System.out", "Random", "currentTime", "nanoTime", "catch", "static {", "package ", " var "};

    private static int wrong = 0;

    private static void due(String what, Object got, Object want) {
        if (!got.equals(want)) {
            wrong++;
            System.out.println(what + " is " + got + ", due is " + want);
        }
    }

    public static void main(String[] args) throws IOException, IllegalAccessException {
        methods();
        fields();
        classes();
        source();
        System.out.println(wrong == 0 ? "the face is as due" : wrong + " faults of the face");
        if (wrong != 0) {
            System.exit(1);
        }
    }

    private static void methods() {
        TreeSet<String> names = new TreeSet<>();
        TreeSet<String> face = new TreeSet<>();
        for (Method method : SpiceThrees.class.getDeclaredMethods()) {
            if (Modifier.isPublic(method.getModifiers())) {
                names.add(method.getName());
                face.add(told(method));
                due("whether static: " + method.getName(), Modifier.isStatic(method.getModifiers()), false);
            }
        }
        due("the face", face, new TreeSet<>(Arrays.asList(FACE)));
        for (Method method : SpiceThrees.class.getDeclaredMethods()) {
            int kind = method.getModifiers();
            if (!Modifier.isPublic(kind) && !method.isSynthetic()) {
                due("whether private: " + method.getName(), Modifier.isPrivate(kind), true);
                due("whether named like the face: " + method.getName(), names.contains(method.getName()), false);
            }
        }
        for (Class<?> inside : SpiceThrees.class.getDeclaredClasses()) {
            for (Method method : inside.getDeclaredMethods()) {
                due("whether named like the face: " + method.getName(), names.contains(method.getName()), false);
            }
        }
        Constructor<?>[] constructors = SpiceThrees.class.getDeclaredConstructors();
        due("constructors", constructors.length, 1);
        due("whether it is public", Modifier.isPublic(constructors[0].getModifiers()), true);
        due("its parameters", constructors[0].getParameterCount(), 0);
    }

    private static String told(Method method) {
        StringBuilder text = new StringBuilder();
        for (Class<?> type : method.getParameterTypes()) {
            text.append(text.length() == 0 ? "" : ", ").append(type.getName());
        }
        return method.getReturnType().getName() + " " + method.getName() + "(" + text + ")";
    }

    private static void fields() throws IllegalAccessException {
        TreeSet<String> constants = new TreeSet<>();
        for (Field field : SpiceThrees.class.getDeclaredFields()) {
            int kind = field.getModifiers();
            if (Modifier.isPublic(kind)) {
                due("whether a constant: " + field.getName(), Modifier.isStatic(kind) && Modifier.isFinal(kind), true);
                constants.add(field.getName() + "=" + field.getInt(null));
            } else {
                due("whether private: " + field.getName(), Modifier.isPrivate(kind), true);
            }
            due("whether static and not final: " + field.getName(), Modifier.isStatic(kind) && !Modifier.isFinal(kind), false);
        }
        due("the constants", constants, new TreeSet<>(Arrays.asList(CONSTANTS)));
    }

    private static void classes() {
        due("whether final", Modifier.isFinal(SpiceThrees.class.getModifiers()), true);
        Class<?>[] inside = SpiceThrees.class.getDeclaredClasses();
        due("whether there are twelve classes at most", inside.length < 12, true);
        for (Class<?> one : inside) {
            int kind = one.getModifiers();
            due("whether static and hidden: " + one.getName(),
                Modifier.isStatic(kind) && !Modifier.isPublic(kind) && !Modifier.isProtected(kind), true);
            int fields = 0;
            for (Field field : one.getDeclaredFields()) {
                fields += Modifier.isStatic(field.getModifiers()) ? 0 : 1;
            }
            due("whether it has twenty fields at most: " + one.getName(), fields <= 20, true);
        }
    }

    private static void source() throws IOException {
        String source = Files.readString(Path.of("src/main/java/SpiceThrees.java"));
        for (String word : FORBIDDEN) {
            due("whether the source has: " + word, source.contains(word), false);
        }
        int lines = 0;
        int length = 0;
        for (String line : source.split("\n")) {
            if (line.startsWith("import ")) {
                due("an import", line, "import java.util.Arrays;");
            }
            // rows and objects are made once, so that long runs make no more of them
            boolean makes = line.contains("new ") && line.contains("(") || line.contains("new int[");
            boolean once = line.contains("private final") || line.startsWith("        ") && !line.startsWith("            ")
                || line.contains("rows[row] = new Shop();");
            due("whether a line makes things outside constructors: " + line, makes && !once, false);
            length = line.matches("    (    )?(private |public |static )*[a-zA-Z\\[\\]]+ [a-zA-Z]+\\(.*\\{") ? 0 : length + 1;
            due("whether a method has over sixty lines at: " + line, length > 60 && line.matches("    (    )?}"), false);
            lines++;
        }
        due("whether the source was read", lines > 100, true);
    }
}
