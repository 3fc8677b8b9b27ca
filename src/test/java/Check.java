/** What the tests share: due answers, due exceptions, and that a refused call leaves all as it was. */
final class Check {
    interface Scene {
        Gasvault make();
    }

    interface Call {
        long on(Gasvault vault);
    }

    static final Class<?> INDEX = IndexOutOfBoundsException.class;
    static final Class<?> ARGUMENT = IllegalArgumentException.class;
    static final Class<?> STATE = IllegalStateException.class;

    private static int checks = 0;
    private static int wrong = 0;

    private Check() {
    }

    static void same(String what, long got, long due) {
        checks++;
        if (got != due) {
            wrong("answered " + got + ", due is " + due, what);
        }
    }

    static void same(String what, String got, String due) {
        checks++;
        if (!got.equals(due)) {
            wrong("\n  answered " + got + "\n  due is   " + due, what);
        }
    }

    /** The answer of a call, or the name of what it throws; marked if the library or the machine threw it. */
    static String answer(Gasvault vault, Call call) {
        try {
            return Long.toString(call.on(vault));
        } catch (RuntimeException e) {
            String name = e.getClass().getName();
            return isThrownByItself(e) ? name : name + " not thrown by Gasvault itself";
        }
    }

    /** A list's own exception bears the right name too, but comes from a place in the library. */
    private static boolean isThrownByItself(RuntimeException e) {
        StackTraceElement[] trace = e.getStackTrace();
        return trace.length > 0 && trace[0].getClassName().startsWith("Gasvault");
    }

    /** The call throws just this, and nothing that could be asked now or later is another than without the call. */
    static void refused(String what, Class<?> due, Scene scene, Call call) {
        for (int look = 0; look < Look.KINDS; look++) {
            Gasvault touched = scene.make();
            same(what, answer(touched, call), due.getName());
            same(what + " is refused and changes nothing, look " + look,
                    Look.ahead(touched, look), Look.ahead(scene.make(), look));
        }
    }

    /** The call is taken, whatever it answers. */
    static void taken(String what, Scene scene, Call call) {
        String got = answer(scene.make(), call);
        same(what + " is taken", got.startsWith("java.") ? got : "taken", "taken");
    }

    static void end() {
        System.out.println(checks + " checks, " + wrong + " wrong");
        if (wrong != 0) {
            System.exit(1);
        }
    }

    private static void wrong(String how, String what) {
        wrong++;
        if (wrong <= 20) {
            System.out.println(what + " " + how);
        }
    }
}
