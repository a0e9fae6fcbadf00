import java.lang.reflect.Method;
import java.lang.reflect.Modifier;
import java.nio.file.Files;
import java.nio.file.Path;
import java.util.regex.Matcher;
import java.util.regex.Pattern;

/** The example of README.md answers as it says there, and every method is named in it. */
public final class ReadmeTests {
    private static final Pattern CALL =
        Pattern.compile("x\\.(\\w+)\\(([^)]*)\\);(?:\\s*// (-?\\d+)\\b.*)?");

    private static int wrong = 0;

    private ReadmeTests() {
    }

    private static void fail(String text) {
        wrong++;
        System.out.println(text);
    }

    public static void main(String[] args) throws Exception {
        String readme = Files.readString(Path.of("README.md"));
        int from = readme.indexOf("```java\n");
        int to = readme.indexOf("```\n", from + 1);
        if (from < 0 || to < 0) {
            fail("README.md has no example");
        } else {
            runs(readme.substring(from, to));
        }
        for (Method method : OneAtATime.class.getDeclaredMethods()) {
            boolean named = readme.contains("`" + method.getName() + "(");
            if (Modifier.isPublic(method.getModifiers()) && !named) {
                fail("README.md does not name " + method.getName());
            }
        }
        System.out.println(wrong == 0 ? "README.md is as due" : wrong + " faults in README.md");
        if (wrong != 0) {
            System.exit(1);
        }
    }

    private static void runs(String example) throws Exception {
        OneAtATime x = new OneAtATime();
        int calls = 0;
        for (String line : example.split("\n")) {
            Matcher call = CALL.matcher(line);
            if (call.matches()) {
                calls++;
                long got = answer(x, call.group(1), call.group(2));
                if (call.group(3) == null || got != Long.parseLong(call.group(3))) {
                    fail(line + " answered " + got);
                }
            } else if (line.startsWith("x.")) {
                fail("not a call: " + line);
            }
        }
        if (calls == 0) {
            fail("README.md's example has no calls");
        }
    }

    private static long answer(OneAtATime x, String name, String told) throws Exception {
        String[] words = told.isEmpty() ? new String[0] : told.split(", ");
        for (Method method : OneAtATime.class.getMethods()) {
            if (method.getName().equals(name) && method.getParameterCount() == words.length) {
                Object[] arguments = new Object[words.length];
                for (int i = 0; i < words.length; i++) {
                    long number = Long.parseLong(words[i].replace("L", ""));
                    boolean wide = method.getParameterTypes()[i] == long.class;
                    arguments[i] = wide ? (Object) number : (Object) (int) number;
                }
                return ((Number) method.invoke(x, arguments)).longValue();
            }
        }
        fail("no such method: " + name);
        return 0;
    }
}
