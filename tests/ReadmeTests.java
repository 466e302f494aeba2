import java.io.IOException;
import java.lang.reflect.Field;
import java.lang.reflect.Method;
import java.lang.reflect.Modifier;
import java.nio.file.Files;
import java.nio.file.Path;
import java.util.regex.Matcher;
import java.util.regex.Pattern;

/** What README.md says: the answers of its example, and a row for each method and constant of the face. */
public final class ReadmeTests {
    private static final Pattern CALL = Pattern.compile("shop\\.(\\w+)\\(([^)]*)\\); +// (-?\\d+): .+");
    private static final Pattern TYPED = Pattern.compile("for \\(char sign : \"([^\"]*)\"\\.toCharArray\\(\\)\\) \\{");
    private static int wrong = 0;
    private static int calls = 0;

    private ReadmeTests() {
    }

    public static void main(String[] args) throws IOException, ReflectiveOperationException {
        String page = Files.readString(Path.of("README.md"));
        example(page);
        methods(page);
        constants(page);
        System.out.println(wrong == 0 ? "the readme holds" : wrong + " faults of the readme");
        if (wrong != 0) {
            System.exit(1);
        }
    }

    private static void wrong(String what) {
        wrong++;
        System.out.println("README.md: " + what);
    }

    private static void example(String page) throws ReflectiveOperationException {
        SpiceThrees shop = new SpiceThrees();
        int start = page.indexOf("```java\n");
        int end = page.indexOf("```", start + 1);
        if (start < 0 || end < 0) {
            wrong("it has no example");
            return;
        }
        for (String line : page.substring(start, end).split("\n")) {
            follow(shop, line);
        }
        if (calls < 10) {
            wrong("only " + calls + " calls of its example have an answer");
        }
    }

    private static void follow(SpiceThrees shop, String line) throws ReflectiveOperationException {
        Matcher typed = TYPED.matcher(line);
        Matcher call = CALL.matcher(line);
        if (typed.matches()) {
            for (char sign : typed.group(1).toCharArray()) {
                shop.type(sign);
            }
        } else if (call.matches()) {
            calls++;
            String answer = String.valueOf(answerOf(shop, call.group(1), call.group(2)));
            if (!answer.equals(call.group(3))) {
                wrong(line + " in truth it answers " + answer);
            }
        } else if (line.startsWith("shop.")) {
            wrong("no answer is told of " + line);
        }
    }

    private static Object answerOf(SpiceThrees shop, String name, String given) throws ReflectiveOperationException {
        for (Method method : SpiceThrees.class.getMethods()) {
            if (method.getName().equals(name)) {
                return method.invoke(shop, argumentsOf(method, given));
            }
        }
        return "no such method";
    }

    private static Object[] argumentsOf(Method method, String given) {
        String[] words = given.isEmpty() ? new String[0] : given.split(", ");
        Object[] values = new Object[words.length];
        for (int place = 0; place < words.length; place++) {
            boolean choice = method.getParameterTypes()[place] == boolean.class;
            values[place] = choice ? (Object) Boolean.valueOf(words[place]) : (Object) Integer.valueOf(words[place]);
        }
        return values;
    }

    /** Each method stands in the first column of a table, with as many arguments as it has. */
    private static void methods(String page) {
        for (Method method : SpiceThrees.class.getDeclaredMethods()) {
            if (Modifier.isPublic(method.getModifiers())) {
                int count = method.getParameterCount();
                String words = count == 0 ? "" : "\\w+(, \\w+){" + (count - 1) + "}";
                if (rows(page, "`" + method.getName() + "\\(" + words + "\\)`") != 1) {
                    wrong("not one row tells of " + method);
                }
            }
        }
    }

    private static void constants(String page) throws IllegalAccessException {
        for (Field field : SpiceThrees.class.getFields()) {
            if (rows(page, "`" + field.getName() + "` \\| " + field.getInt(null)) != 1) {
                wrong("not one row tells of " + field.getName());
            }
        }
    }

    private static int rows(String page, String start) {
        Matcher row = Pattern.compile("(?m)^\\| (`[^`|]*`, )*" + start + "(, `[^`|]*`)* \\|").matcher(page);
        int found = 0;
        while (row.find()) {
            found++;
        }
        return found;
    }
}
