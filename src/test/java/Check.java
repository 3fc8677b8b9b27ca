/** What the tests share: due answers, due exceptions, and that a refused call leaves all as it was. */
final class Check {
    interface Scene {
        Gasvault make();
    }

    interface Call {
        long on(Gasvault vault);
    }

    /** A call with one argument that is tried with many values. */
    interface With {
        long on(Gasvault vault, int value);
    }

    static final Class<?> INDEX = IndexOutOfBoundsException.class;
    static final Class<?> ARGUMENT = IllegalArgumentException.class;
    static final Class<?> STATE = IllegalStateException.class;

    private static int checks = 0;
    private static int wrong = 0;
    private static String about = "";

    private Check() {
    }

    /** Told ahead of each wrong answer from now on. */
    static void about(String told) {
        about = told;
    }

    static int many() {
        return checks;
    }

    static void same(String what, long got, long due) {
        checks++;
        if (got != due) {
            wrong("answered " + got + ", due is " + due, what);
        }
    }

    static void same(String what, String got, String due) {
        checks++;
        if (!got.equals(due)) {
            wrong("\n  answered " + got + "\n  due is   " + due, what);
        }
    }

    /** The answer of a call, or the name of what it throws; marked if the library or the machine threw it. */
    static String answer(Gasvault vault, Call call) {
        try {
            return Long.toString(call.on(vault));
        } catch (RuntimeException e) {
            String name = e.getClass().getName();
            return isThrownByItself(e) ? name : name + " not thrown by Gasvault itself";
        }
    }

    /** A list's own exception bears the right name too, but comes from a place in the library. */
    private static boolean isThrownByItself(RuntimeException e) {
        StackTraceElement[] trace = e.getStackTrace();
        return trace.length > 0 && trace[0].getClassName().startsWith("Gasvault");
    }

    /** The call throws just this, and nothing that could be asked now or later is another than without the call. */
    static void refused(String what, Class<?> due, Scene scene, Call call) {
        for (int look = 0; look < Look.KINDS; look++) {
            Gasvault touched = scene.make();
            same(what, answer(touched, call), due.getName());
            same(what + " is refused and changes nothing, look " + look,
                    Look.ahead(touched, look), Look.ahead(scene.make(), look));
        }
    }

    /** The call is taken, whatever it answers. */
    static void taken(String what, Scene scene, Call call) {
        String got = answer(scene.make(), call);
        same(what + " is taken", got.startsWith("java.") ? got : "taken", "taken");
    }

    /** The first and the last value are taken; the one ahead, the one behind and far ones are IllegalArguments. */
    static void range(String what, int first, int last, Scene scene, With call) {
        taken(what + " " + first, scene, v -> call.on(v, first));
        taken(what + " " + last, scene, v -> call.on(v, last));
        outside(what, first, last, ARGUMENT, scene, call);
    }

    /** The value ahead of the first, the one behind the last, and far ones are refused. */
    static void outside(String what, int first, int last, Class<?> due, Scene scene, With call) {
        for (int value : new int[] {first - 1, last + 1, Integer.MIN_VALUE, Integer.MAX_VALUE}) {
            refused(what + " " + value, due, scene, v -> call.on(v, value));
        }
    }

    /** A call that tells of one store: none of none, 0 to 3 of four, 0 to 4 of five. */
    static void onStores(With call) {
        numbers("store", 4, 5, call);
    }

    /** A call that tells of one customer: none of none, 0 to 4 of five, 0 to 5 of six. */
    static void onCustomers(With call) {
        numbers("customer", 5, 6, call);
    }

    private static void numbers(String what, int busy, int full, With call) {
        outside(what + " of none", 0, -1, INDEX, Gasvault::new, call);
        outside(what + " of " + busy, 0, busy - 1, INDEX, Scenes::busy, call);
        outside(what + " of " + full, 0, full - 1, INDEX, Scenes::full, call);
        for (int number = 0; number < full; number++) {
            int n = number;
            taken(what + " " + n, n < busy ? Scenes::busy : Scenes::full, v -> call.on(v, n));
        }
    }

    static void end() {
        System.out.println(checks + " checks, " + wrong + " wrong");
        if (wrong != 0) {
            System.exit(1);
        }
    }

    private static void wrong(String how, String what) {
        wrong++;
        if (wrong <= 20) {
            System.out.println((about.isEmpty() ? "" : about + ": ") + what + " " + how);
        }
    }
}
