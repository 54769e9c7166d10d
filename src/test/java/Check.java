/** Counts the answers that are not as due. Each test ends with Check.done(). */
final class Check {
    private static int asked = 0;
    private static int wrong = 0;

    private Check() {
    }

    static void same(String what, long got, long due) {
        asked++;
        if (got != due) {
            wrong++;
            System.out.println(what + " answered " + got + ", due is " + due);
        }
    }

    static void same(String what, String got, String due) {
        asked++;
        if (!got.equals(due)) {
            wrong++;
            System.out.println(what + " is\n" + got + "\ndue is\n" + due);
        }
    }

    /** The call throws just this exception, and what the object shows is what it showed before. */
    static void refused(String what, IntraMill mill, Class<? extends RuntimeException> due, Runnable call) {
        String before = Sight.of(mill);
        String got = "nothing";
        try {
            call.run();
        } catch (RuntimeException e) {
            got = e.getClass().getName();
        }
        same(what + " throws", got, due.getName());
        same("after " + what + " the object", Sight.of(mill), before);
    }

    static void noArgument(String what, IntraMill mill, Runnable call) {
        refused(what, mill, IllegalArgumentException.class, call);
    }

    static void done() {
        System.out.println(asked - wrong + " answers as due, " + wrong + " not");
        if (wrong != 0 || asked == 0) {
            System.exit(1);
        }
    }
}
