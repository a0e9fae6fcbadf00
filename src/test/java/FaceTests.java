import java.lang.reflect.Constructor;
import java.lang.reflect.Field;
import java.lang.reflect.Method;
import java.lang.reflect.Modifier;
import java.nio.file.Files;
import java.nio.file.Path;
import java.util.ArrayList;
import java.util.Arrays;
import java.util.HashSet;
import java.util.List;
import java.util.Set;
import java.util.TreeSet;
import java.util.regex.Matcher;
import java.util.regex.Pattern;

/** The public face of the document, and those rules of LANGUAGE.md that a program can look at. */
public final class FaceTests {
    private static final String[] FACE = {
        "int feed(int,int,int,int,int)", "int end(int)", "int told(int)", "int fault(int)",
        "int count(int)", "int look(int,int)", "int is(int,int)", "int word(int,int)",
        "int step(int,int)", "int where(int,int,int)", "int lacks(int,int)", "int turned(int,int)",
        "int order(int,int)", "int uneven(int)", "int gap(int,int)", "int run(int,int,int)",
        "int parts(int,int,int)", "int level(int,int,int)", "int same(int,int)",
        "int shift(int,int)", "int apart(int,int,int)", "int spread(int)",
        "int climbs(int,int,int)", "int code(int)", "int rank(int)", "int ruler(int)",
        "int makes(int,int)", "int finds(int,int,int)", "int extend(int,long)", "int open(int)",
        "int way(int,int,int)", "long evenest(int,int)", "int tracks(int,int,int,int)",
        "int product(int,int,int)", "int twists(int,int,int)", "int twistable(int)",
        "int detour(int,int,int)", "int mirror(int)", "int starts(int,int)",
        "int swaps(int,int,int)", "int reverse(int)", "int rolls(int,int)", "int adds(int,int)",
        "int cuts(int,int)", "int alike(int,int)", "int drops(int)", "int undo()",
        "int tell(int,int)", "int octet(int)",
    };

    private static final String[] FORBIDDEN_WORDS = {
        "throw", "throws", "try", "catch", "synchronized", "assert", "package", "volatile",
        "transient", "native", "random", "nanoTime", "currentTimeMillis", "Thread", "System.out",
        "hashCode", "toString", "equals", "Object", "Double", "Map", "Set", "Stream",
    };

    private static int wrong = 0;

    private static void fail(String text) {
        wrong++;
        System.out.println(text);
    }

    public static void main(String[] args) throws Exception {
        looksAtFace();
        looksAtNestedClasses();
        String source = Files.readString(Path.of("src/main/java/OneAtATime.java"));
        looksAtSource(withoutCommentsAndTexts(source));
        System.out.println(wrong == 0 ? "the face is as due" : wrong + " faults in the face");
        if (wrong != 0) {
            System.exit(1);
        }
    }

    private static void looksAtFace() throws Exception {
        Class<?> face = OneAtATime.class;
        if (!Modifier.isPublic(face.getModifiers()) || !Modifier.isFinal(face.getModifiers())) {
            fail("the class is not public and final");
        }
        Set<String> due = new TreeSet<>(Arrays.asList(FACE));
        Set<String> names = namesOfFace();
        Set<String> found = new TreeSet<>();
        for (Method method : face.getDeclaredMethods()) {
            if (Modifier.isPublic(method.getModifiers())) {
                found.add(told(method));
            } else if (!Modifier.isPrivate(method.getModifiers())) {
                fail("neither public nor private: " + method);
            } else if (names.contains(method.getName())) {
                fail("a private method with a public one's name: " + method);
            }
        }
        if (!due.equals(found)) {
            fail("public methods are " + found + ", due are " + due);
        }
        Constructor<?>[] constructors = face.getDeclaredConstructors();
        if (constructors.length != 1 || constructors[0].getParameterCount() != 0
            || !Modifier.isPublic(constructors[0].getModifiers())) {
            fail("not just one public constructor without parameters");
        }
        looksAtFields(face);
    }

    private static Set<String> namesOfFace() {
        Set<String> names = new HashSet<>();
        for (String method : FACE) {
            names.add(method.substring(method.indexOf(' ') + 1, method.indexOf('(')));
        }
        return names;
    }

    private static void looksAtFields(Class<?> face) throws Exception {
        for (Field field : face.getDeclaredFields()) {
            int flags = field.getModifiers();
            boolean isNone = field.getName().equals("NONE");
            if (isNone && !(Modifier.isPublic(flags) && Modifier.isStatic(flags)
                && Modifier.isFinal(flags) && field.getInt(null) == -1)) {
                fail("NONE is not the constant -1");
            }
            if (!isNone && !Modifier.isPrivate(flags)) {
                fail("not private: " + field);
            }
            if (Modifier.isStatic(flags) && !Modifier.isFinal(flags)) {
                fail("static and not final: " + field);
            }
        }
    }

    private static String told(Method method) {
        List<String> types = new ArrayList<>();
        for (Class<?> type : method.getParameterTypes()) {
            types.add(type.getName());
        }
        return method.getReturnType().getName() + " " + method.getName()
            + "(" + String.join(",", types) + ")";
    }

    private static void looksAtNestedClasses() {
        Class<?>[] inside = OneAtATime.class.getDeclaredClasses();
        if (inside.length > 11) {
            fail("more than twelve classes");
        }
        for (Class<?> nested : inside) {
            int flags = nested.getModifiers();
            if (!Modifier.isStatic(flags) || Modifier.isPublic(flags)
                || Modifier.isProtected(flags)) {
                fail("not a private or package-visible static class: " + nested);
            }
            for (Field field : nested.getDeclaredFields()) {
                if (Modifier.isStatic(field.getModifiers())
                    && !Modifier.isFinal(field.getModifiers())) {
                    fail("static and not final: " + field);
                }
            }
            for (Method method : nested.getDeclaredMethods()) {
                if (method.getParameterCount() > 7) {
                    fail("more than seven parameters: " + method);
                }
                if (namesOfFace().contains(method.getName())) {
                    fail("a method inside with a public one's name: " + method);
                }
            }
        }
    }

    private static void looksAtSource(String source) {
        for (String word : FORBIDDEN_WORDS) {
            if (Pattern.compile("\\b" + Pattern.quote(word) + "\\b").matcher(source).find()) {
                fail("the source has the word " + word);
            }
        }
        if (source.contains("->") || source.contains("::") || source.contains("Exact")) {
            fail("the source has a lambda, a method reference or an Exact function");
        }
        Matcher imports = Pattern.compile("import ([\\w.]+);").matcher(source);
        while (imports.find()) {
            if (!imports.group(1).equals("java.util.Arrays")) {
                fail("the source imports " + imports.group(1));
            }
        }
    }

    private static String withoutCommentsAndTexts(String source) {
        return source.replaceAll("(?s)/\\*.*?\\*/", " ").replaceAll("//[^\\n]*", " ")
            .replaceAll("\"[^\"\\n]*\"", "\"\"");
    }
}
