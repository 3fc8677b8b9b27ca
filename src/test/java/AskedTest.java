/** Promises 13 to 17: pressure, rate, mix, ofStore, ofCustomer. */
public final class AskedTest {
    public static void main(String[] args) {
        pressures();
        rates();
        ratesWithinTheGas();
        mixes();
        mixesAsFloats();
        ofStores();
        ofCustomers();
        numbers();
        Check.end();
    }

    private static Gasvault store(int kind, int volume, int gas, int least, int greatest) {
        Gasvault v = new Gasvault();
        v.store(kind, volume, gas, least, greatest, 1000000);
        return v;
    }

    private static void pressures() {
        for (int kind = 0; kind < 3; kind++) {
            Check.same("100 * 2000 / 1000", store(kind, 1000, 2000, 0, 1000).pressure(0), 200);
            Check.same("rounded down", store(kind, 1000, 2009, 0, 1000).pressure(0), 200);
            Check.same("rounded down, less", store(kind, 1000, 1999, 0, 1000).pressure(0), 199);
            Check.same("without gas", store(kind, 1000, 0, 0, 1000).pressure(0), 0);
            Check.same("little gas", store(kind, 1000, 9, 0, 1000).pressure(0), 0);
            Check.same("a bit more", store(kind, 1000, 10, 0, 1000).pressure(0), 1);
            Check.same("the greatest", store(kind, 100000, 1000000, 0, 1000).pressure(0), 1000);
            Check.same("volume 1", store(kind, 1, 10, 0, 1000).pressure(0), 1000);
        }
        Gasvault v = store(0, 1000, 2000, 0, 1000);
        v.pass(24);
        Check.same("by the room without the water: 2000 in 995", v.pressure(0), 201);
        Gasvault many = new Gasvault();
        for (int i = 0; i < 5; i++) {
            many.store(2, 100, 10 * i, 0, 1000, 1000);
        }
        for (int i = 0; i < 5; i++) {
            Check.same("of store " + i, many.pressure(i), 10 * i);
        }
    }

    private static void rates() {
        rate(10, 10, 300, 200, 700, 400, 100);
        rate(1, 1, 300, 200, 700, 4, 1);
        rate(1, 1, 299, 200, 700, 4, 0);
        rate(3, 11, 300, 200, 700, 132, 33);
        rate(3, 11, 307, 200, 700, 129, 35);
        rate(10, 10, 200, 200, 700, 500, 0);
        rate(10, 10, 700, 200, 700, 0, 500);
        rate(0, 1000, 300, 200, 700, 0, 0);
        rate(100, 0, 300, 200, 700, 0, 0);
        rate(10, 10, 300, 300, 300, 0, 0);
    }

    /** A volume of 1000, the gas 10 times the pressure. */
    private static void rate(int many, int strength, int pressure, int least, int greatest, int in, int out) {
        for (int kind = 0; kind < 3; kind++) {
            Gasvault v = store(kind, 1000, 10 * pressure, least, greatest);
            v.wells(0, many, strength);
            String what = many + " wells of " + strength + " at " + pressure;
            Check.same(what + ", in", v.rate(0, true), in);
            Check.same(what + ", out", v.rate(0, false), out);
        }
    }

    private static void ratesWithinTheGas() {
        Gasvault v = store(1, 33, 5, 10, 20);
        v.wells(0, 100, 1000);
        Check.same("most gas 6", v.rate(0, true), 1);
        Check.same("least gas 4", v.rate(0, false), 1);
        Gasvault at = store(1, 33, 4, 10, 20);
        at.wells(0, 100, 1000);
        Check.same("pressure 12, but at the least gas", at.rate(0, false), 0);
        Check.same("2 to the most gas", at.rate(0, true), 2);
        Gasvault full = store(1, 33, 6, 10, 20);
        full.wells(0, 100, 1000);
        Check.same("pressure 18, but at the most gas", full.rate(0, true), 0);
        Check.same("2 to the least gas", full.rate(0, false), 2);
        Gasvault below = store(1, 100, 50, 50, 100);
        below.wells(0, 100, 1000);
        below.leak(0, 20);
        below.pass(1);
        Check.same("below the least gas", below.ofStore(0, 0), 30);
        Check.same("nothing out there", below.rate(0, false), 0);
        Check.same("in there", below.rate(0, true), 70);
        Gasvault much = store(2, 100000, 500000, 0, 1000);
        much.wells(0, 100, 1000);
        Check.same("half of a million, in", much.rate(0, true), 500000);
        Check.same("half of a million, out", much.rate(0, false), 500000);
        Gasvault empty = store(2, 100000, 0, 0, 1000);
        empty.wells(0, 100, 1000);
        Check.same("a million in", empty.rate(0, true), 1000000);
    }

    private static void mixes() {
        Gasvault v = new Gasvault();
        v.store(2, 100, 0, 0, 1000, 1000);
        Check.same("without gas", v.mix(0), 0);
        v.store(2, 100, 7, 0, 1000, 1000);
        Check.same("heat at first", v.mix(1), 10000);
        v.heat(0);
        v.store(2, 100, 7, 0, 1000, 1000);
        Check.same("no heat", v.mix(2), 0);
        v.heat(20000);
        v.store(2, 100000, 1000000, 0, 1000, 1000000);
        Check.same("most heat", v.mix(3), 20000);
        v.leak(1, 7);
        v.pass(1);
        Check.same("when the gas is lost", v.mix(1), 0);
        v.store(2, 100, 1, 0, 1000, 1000);
        Check.same("a single unit", v.mix(4), 20000);
        Check.same("and its heat", v.ofStore(1, 4), 0);
    }

    /**
     * 24929 times 673 is 16777217, which as a float is 16777216; that divided by 24929 is below 673 as a float too.
     * 999999 units of 10000 and one of 9999 have 9999999999, which as a float is 10000000000. 32769 units of 20000
     * have 655380000, which as a float is 655379968: by doubles that would be less than 20000 times 32769.
     */
    private static void mixesAsFloats() {
        Gasvault v = new Gasvault();
        v.heat(673);
        v.store(2, 100000, 24929, 0, 1000, 1000000);
        Check.same("heat", v.ofStore(0, 4), 16777217);
        Check.same("one less by the float", v.mix(0), 672);
        Gasvault w = new Gasvault();
        w.store(2, 100000, 999999, 0, 1000, 1000000);
        w.wells(0, 100, 1000);
        w.heat(9999);
        w.customer(10, 10, 10, 0);
        w.nominate(0, 2, 1);
        w.pass(3);
        Check.same("heat", w.ofStore(0, 4), 9999999999L);
        Check.same("one more by the float", w.mix(0), 10000);
        Gasvault x = new Gasvault();
        x.heat(20000);
        x.store(2, 100000, 32769, 0, 1000, 1000000);
        Check.same("divided as floats too", x.mix(0), 20000);
    }

    private static void ofStores() {
        Gasvault v = store(0, 1000, 2000, 153, 777);
        v.pass(24);
        long[] due = {2000, 995, 1000, 5, 20000000, 1523, 7731};
        for (int what = 0; what < 7; what++) {
            Check.same("field, what " + what, v.ofStore(0, what), due[what]);
        }
        Gasvault w = new Gasvault();
        w.store(0, 1, 0, 0, 0, 0);
        w.store(1, 33, 5, 10, 20, 0);
        long[] dueOfOne = {5, 33, 33, 0, 50000, 4, 6};
        for (int what = 0; what < 7; what++) {
            Check.same("cavern, what " + what, w.ofStore(1, what), dueOfOne[what]);
        }
        least(100, 10, 10);
        least(101, 10, 11);
        least(110, 10, 11);
        least(199, 1, 2);
        least(1, 1, 1);
        least(1, 0, 0);
    }

    private static void least(int volume, int pressure, int due) {
        Gasvault v = store(2, volume, due, pressure, 1000);
        Check.same("least gas of " + volume + " at " + pressure, v.ofStore(0, 5), due);
    }

    private static void ofCustomers() {
        Gasvault v = Scenes.holding(300, 71, 31, 99);
        v.nominate(1, 7, 50);
        v.nominate(1, 10, -20);
        v.nominate(1, 11, -21);
        v.nominate(1, 12, 5);
        v.law(11, 11, 127);
        v.pass(3);
        all(v, 1, 149, 71, 31, 50, 0, 0);
        v.pass(4);
        all(v, 1, 127, 71, 31, 50, 22, 19);
        v.pass(1);
        all(v, 1, 127, 71, 31, 50, 22, 24);
        all(v, 0, 0, 100000, 50000, 99, 0, 0);
    }

    private static void all(Gasvault v, int customer, long... due) {
        for (int what = 0; what < 6; what++) {
            Check.same("customer " + customer + ", what " + what, v.ofCustomer(customer, what), due[what]);
        }
    }

    private static void numbers() {
        int[] wrongStores = {-1, 4, 5, Integer.MAX_VALUE, Integer.MIN_VALUE};
        for (int s : wrongStores) {
            Check.refused("pressure of store " + s, Check.INDEX, Scenes::busy, v -> v.pressure(s));
            Check.refused("rate in of store " + s, Check.INDEX, Scenes::busy, v -> v.rate(s, true));
            Check.refused("rate out of store " + s, Check.INDEX, Scenes::busy, v -> v.rate(s, false));
            Check.refused("mix of store " + s, Check.INDEX, Scenes::busy, v -> v.mix(s));
            Check.refused("ofStore " + s, Check.INDEX, Scenes::busy, v -> v.ofStore(s, 0));
            Check.refused("ofStore " + s + " and a wrong what", Check.INDEX, Scenes::busy, v -> v.ofStore(s, 7));
        }
        int[] wrongCustomers = {-1, 5, 6, Integer.MAX_VALUE, Integer.MIN_VALUE};
        for (int c : wrongCustomers) {
            Check.refused("ofCustomer " + c, Check.INDEX, Scenes::busy, v -> v.ofCustomer(c, 0));
            Check.refused("ofCustomer " + c + " and a wrong what", Check.INDEX, Scenes::busy,
                    v -> v.ofCustomer(c, -1));
        }
        int[] wrongWhats = {-1, 7, 8, Integer.MAX_VALUE, Integer.MIN_VALUE};
        for (int what : wrongWhats) {
            Check.refused("ofStore what " + what, Check.ARGUMENT, Scenes::busy, v -> v.ofStore(0, what));
            Check.refused("ofCustomer what " + what, Check.ARGUMENT, Scenes::busy, v -> v.ofCustomer(0, what));
        }
        Check.refused("ofCustomer what 6", Check.ARGUMENT, Scenes::busy, v -> v.ofCustomer(0, 6));
        Check.taken("pressure of the last store", Scenes::full, v -> v.pressure(4));
        Check.taken("mix of the last store", Scenes::full, v -> v.mix(4));
        Check.taken("rate of the last store", Scenes::full, v -> v.rate(4, true));
        Check.taken("ofStore of the last one", Scenes::full, v -> v.ofStore(4, 6));
        Check.taken("ofCustomer of the last one", Scenes::full, v -> v.ofCustomer(5, 5));
    }
}
