import java.lang.reflect.InvocationTargetException;
import java.lang.reflect.Method;
import java.util.ArrayList;
import java.util.Arrays;
import java.util.Comparator;
import java.util.List;
import java.util.function.Consumer;
import java.util.function.Supplier;

/** Runs a class of tests and counts the answers that are not as due. */
final class Check {
    /** Of each test: so that one that fails often does not hide the others. */
    private static final int MOST_SHOWN = 3;

    private static String test = "";
    private static int asked = 0;
    private static int wrong = 0;
    private static int shown = 0;

    private Check() {
    }

    /** Runs each method of a class that says which words it belongs to, and ends with code 1 if one fails. */
    static void run(Class<?> tests) {
        Method[] methods = tests.getDeclaredMethods();
        Arrays.sort(methods, Comparator.comparing(Method::getName));
        List<String> quotes = new ArrayList<>();
        int count = 0;
        for (Method method : methods) {
            Says says = method.getAnnotation(Says.class);
            if (says != null) {
                name(tests.getSimpleName() + "." + method.getName() + " \"" + says.value() + "\"");
                runOne(method);
                quotes.add(says.value());
                count++;
            }
        }
        compareQuotes(tests.getAnnotation(Part.class), quotes);
        System.out.println(count + " tests, " + (asked - wrong) + " answers as due, " + wrong + " not");
        if (wrong != 0 || asked == 0) {
            System.exit(1);
        }
    }

    private static void name(String newTest) {
        test = newTest;
        shown = 0;
    }

    private static void runOne(Method method) {
        int before = asked;
        try {
            method.invoke(null);
            same("has asked something", asked > before);
        } catch (InvocationTargetException e) {
            same("ends without " + e.getCause(), false);
        } catch (IllegalAccessException e) {
            same("can be called", false);
        }
    }

    /** The words that the tests quote stand in the part just once, and they leave none of it over. */
    private static void compareQuotes(Part part, List<String> quotes) {
        if (part == null || !Doc.isThere(part)) {
            return;
        }
        name(part.name());
        String text = Doc.textOf(part);
        for (String words : quotes) {
            same("how often the document has \"" + words + "\"", Doc.count(text, words), 1);
        }
        String rest = Doc.without(text, quotes);
        same("the words without a test, \"" + rest + "\",", rest.replaceAll("[^A-Za-z0-9]", ""), "");
    }

    static void same(String what, boolean holds) {
        same(what, holds, true);
    }

    static void same(String what, boolean got, boolean due) {
        same(what, String.valueOf(got), String.valueOf(due));
    }

    static void same(String what, long got, long due) {
        same(what, String.valueOf(got), String.valueOf(due));
    }

    static void same(String what, String got, String due) {
        asked++;
        if (!got.equals(due)) {
            wrong++;
            shown++;
            if (shown <= MOST_SHOWN) {
                System.out.println(test + ": " + what + " is\n" + got + "\ndue is\n" + due);
            }
        }
    }

    /** The call throws an IllegalArgumentException, and the object shows what it shows without the call. */
    static void refused(String what, Supplier<IntraMill> recipe, Consumer<IntraMill> call) {
        refused(what, recipe, IllegalArgumentException.class, call);
    }

    static void refused(String what, Supplier<IntraMill> recipe, Class<? extends RuntimeException> due,
            Consumer<IntraMill> call) {
        same(what + " throws", thrown(recipe.get(), call), due.getName());
        same("the object after " + what, Sight.of(() -> tried(recipe, call)), Sight.of(recipe));
    }

    private static IntraMill tried(Supplier<IntraMill> recipe, Consumer<IntraMill> call) {
        IntraMill mill = recipe.get();
        thrown(mill, call);
        return mill;
    }

    /** The name of the exception that a call throws. */
    static String thrown(IntraMill mill, Consumer<IntraMill> call) {
        try {
            call.accept(mill);
        } catch (RuntimeException e) {
            return e.getClass().getName();
        }
        return "nothing";
    }
}
