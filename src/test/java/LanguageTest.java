import java.io.IOException;
import java.lang.reflect.Array;
import java.lang.reflect.Field;
import java.lang.reflect.Method;
import java.lang.reflect.Modifier;
import java.nio.file.Files;
import java.nio.file.Path;
import java.util.ArrayList;
import java.util.Arrays;
import java.util.List;
import java.util.TreeSet;
import java.util.regex.Matcher;
import java.util.regex.Pattern;

/** The rules of ../shared/LANGUAGE.md that can be seen from the class or from its text. */
public final class LanguageTest {
    private static final Path PLACE = Path.of("src", "main", "java", "IntraMill.java");

    public static void main(String[] args) {
        Check.run(LanguageTest.class);
    }

    /** The class's text without its comments. */
    private static String text() {
        try {
            return Files.readString(PLACE).replaceAll("(?s)/\\*.*?\\*/", "").replaceAll("//.*", "");
        } catch (IOException e) {
            return "the text is not there";
        }
    }

    private static List<Class<?>> classes() {
        List<Class<?>> all = new ArrayList<>();
        all.add(IntraMill.class);
        all.addAll(Arrays.asList(IntraMill.class.getDeclaredClasses()));
        return all;
    }

    /** All that a pattern finds in the text, each once. */
    private static String found(String pattern) {
        TreeSet<String> all = new TreeSet<>();
        Matcher matcher = Pattern.compile(pattern).matcher(text());
        while (matcher.find()) {
            all.add(matcher.group());
        }
        return String.join(" ", all);
    }

    @Says("Rule 1: No private method bears the name of a public one.")
    static void namesOfTheFaceAreItsOwn() {
        TreeSet<String> face = new TreeSet<>();
        for (Method method : IntraMill.class.getDeclaredMethods()) {
            if (Modifier.isPublic(method.getModifiers())) {
                face.add(method.getName());
            }
        }
        Check.same("methods of the face", face.size(), 13);
        for (Class<?> one : classes()) {
            for (Method method : one.getDeclaredMethods()) {
                boolean isPublic = Modifier.isPublic(method.getModifiers());
                Check.same(one + " " + method.getName(), isPublic || !face.contains(method.getName()));
            }
        }
    }

    @Says("Rule 1: the classes inside it, which are private or package-visible and static")
    static void classesInsideAreStatic() {
        for (Class<?> inside : IntraMill.class.getDeclaredClasses()) {
            int how = inside.getModifiers();
            Check.same(inside + " is static", Modifier.isStatic(how));
            Check.same(inside + " is hidden", !Modifier.isPublic(how) && !Modifier.isProtected(how));
        }
    }

    @Says("Rule 2: no lambda, no method reference")
    static void noLambda() {
        Check.same("arrows and pairs of colons", found("->|::"), "");
    }

    @Says("Rule 4: The library: only what stands here.")
    static void onlyAbsAndMinAndTheBoundsOfIntAreUsed() {
        Check.same("package and import lines", found("\\b(package|import)\\b"), "");
        Check.same("what is used of other classes", found("\\b(Math|Integer|Long|System|Arrays|String)\\.\\w+"),
                "Integer.MAX_VALUE Math.abs Math.min");
    }

    @Says("Rule 5: Static fields are final; no static initialiser block")
    static void staticFieldsAreFinal() {
        for (Class<?> one : classes()) {
            for (Field field : one.getDeclaredFields()) {
                int how = field.getModifiers();
                Check.same(field.toString(), !Modifier.isStatic(how) || Modifier.isFinal(how));
            }
        }
        Check.same("blocks", found("static\\s*\\{"), "");
    }

    @Says("Rule 6: throw new E(); no finally, synchronized, assert")
    static void onlyTheDocumentsExceptionsAreThrown() {
        Check.same("thrown", found("throw new \\w+\\(\\)|throw (?!new)\\w+"),
                "throw new IllegalArgumentException() throw new IllegalStateException()");
        Check.same("words that may not be", found("\\b(try|catch|finally|synchronized|assert)\\b"), "");
    }

    @Says("Rule 11: at most seven parameters, some twelve classes, some twenty fields beside the constants")
    static void nothingIsTooGreat() {
        Check.same("classes", classes().size() <= 12);
        for (Class<?> one : classes()) {
            int fields = 0;
            for (Field field : one.getDeclaredFields()) {
                fields += Modifier.isStatic(field.getModifiers()) ? 0 : 1;
            }
            Check.same("fields of " + one, fields <= 20);
            for (Method method : one.getDeclaredMethods()) {
                Check.same(method.toString(), method.getParameterCount() <= 7);
            }
        }
    }

    /** Rows and parts are made for fields that are set once, but for the two plans that change places. */
    @Says("Rule 12: What a run makes is counted")
    static void callsMakeNothingButExceptions() {
        TreeSet<String> fields = new TreeSet<>(List.of("latest", "trial"));
        for (Class<?> one : classes()) {
            for (Field field : one.getDeclaredFields()) {
                if (Modifier.isFinal(field.getModifiers())) {
                    fields.add(field.getName());
                }
            }
        }
        Matcher matcher = Pattern.compile("(\\w+)( =)? new \\w+").matcher(text());
        while (matcher.find()) {
            String before = matcher.group(1);
            Check.same(matcher.group(), before.equals("throw") || fields.contains(before));
        }
    }

    /** So that 600 objects fit into the room of 7.3 million fields and elements. */
    @Says("Rule 12: keep it small")
    static void anObjectIsSmall() {
        List<Object> seen = new ArrayList<>();
        int size = sizeOf(new IntraMill(), seen);
        Check.same(size + " fields and elements", size > 0 && size < 12000);
        Check.same(seen.size() + " objects and arrays", seen.size() > 0 && seen.size() < 40);
    }

    /** The fields and elements of an object and of all that it leads to. */
    private static int sizeOf(Object object, List<Object> seen) {
        if (object == null || seen.stream().anyMatch(one -> one == object)) {
            return 0;
        }
        seen.add(object);
        if (object.getClass().isArray()) {
            return Array.getLength(object);
        }
        int size = 0;
        for (Field field : object.getClass().getDeclaredFields()) {
            if (!Modifier.isStatic(field.getModifiers())) {
                size += 1 + (field.getType().isPrimitive() ? 0 : sizeOf(valueOf(field, object), seen));
            }
        }
        return size;
    }

    private static Object valueOf(Field field, Object object) {
        try {
            field.setAccessible(true);
            return field.get(object);
        } catch (IllegalAccessException e) {
            return null;
        }
    }
}
