/** Writes down what an object answers, so that two objects can be compared; each look in less than 400 calls. */
final class Look {
    static final int KINDS = 4;

    private Look() {
    }

    /** Looks that need calls which change the object, so that each kind wants an object of its own. */
    static String ahead(Gasvault v, int kind) {
        StringBuilder s = new StringBuilder();
        switch (kind) {
            case 0: nominations(v, s); break;
            case 1: tellings(v, s); break;
            case 2: soon(v, s); break;
            default: later(v, s); break;
        }
        return s.toString();
    }

    /** All that can be asked without a change. */
    static String now(Gasvault v) {
        StringBuilder s = new StringBuilder();
        for (int what = 0; what < 8; what++) {
            s.append(v.of(what)).append(' ');
        }
        for (int i = 0, many = stores(v); i < many; i++) {
            s.append("| store ").append(v.pressure(i)).append(' ').append(v.rate(i, true)).append(' ')
                    .append(v.rate(i, false)).append(' ').append(v.mix(i)).append(' ');
            for (int what = 0; what < 7; what++) {
                s.append(v.ofStore(i, what)).append(' ');
            }
        }
        for (int i = 0, many = customers(v); i < many; i++) {
            s.append("| customer ").append(v.flow(i)).append(' ').append(v.why(i)).append(' ')
                    .append(v.worth(i, 2)).append(' ');
            for (int what = 0; what < 6; what++) {
                s.append(v.ofCustomer(i, what)).append(' ');
            }
        }
        return s.toString();
    }

    static int stores(Gasvault v) {
        int many = 0;
        while (Check.answer(v, numbered(many, true)).startsWith("java.") == false) {
            many++;
        }
        return many;
    }

    static int customers(Gasvault v) {
        int many = 0;
        while (Check.answer(v, numbered(many, false)).startsWith("java.") == false) {
            many++;
        }
        return many;
    }

    private static Check.Call numbered(int number, boolean isStore) {
        return v -> isStore ? v.pressure(number) : v.ofCustomer(number, 0);
    }

    private static void nominations(Gasvault v, StringBuilder s) {
        int now = (int) v.of(0);
        for (int i = 0, many = customers(v); i < many; i++) {
            s.append("| nominated ");
            for (int ahead = 2; ahead <= 60; ahead++) {
                s.append(v.nominate(i, now + ahead, 0)).append(' ');
            }
        }
    }

    private static void tellings(Gasvault v, StringBuilder s) {
        int now = (int) v.of(0);
        s.append(now(v)).append("| heat ").append(v.heat(1)).append("| leaks ");
        for (int i = 0, many = stores(v); i < many; i++) {
            s.append(v.leak(i, 0)).append(' ');
        }
        s.append("| prices ");
        for (int ahead = 0; ahead <= 60; ahead++) {
            s.append(v.price(now + ahead, 0)).append(' ');
        }
        s.append("| laws ").append(Check.answer(v, x -> x.law(10000, 10000, 0)));
        s.append("| next store ").append(Check.answer(v, x -> x.store(0, 1, 0, 0, 0, 0)));
        s.append("| next customer ").append(Check.answer(v, x -> x.customer(1, 0, 0, 0)));
    }

    private static void soon(Gasvault v, StringBuilder s) {
        for (int i = 0; i < 3; i++) {
            s.append("\n  passed to ").append(Check.answer(v, x -> x.pass(1))).append(": ").append(now(v));
        }
    }

    private static void later(Gasvault v, StringBuilder s) {
        s.append("\n  passed to ").append(Check.answer(v, x -> x.pass(24))).append(": ").append(now(v));
        s.append("\n  passed to ").append(Check.answer(v, x -> x.pass(48))).append(": ").append(now(v));
    }
}
