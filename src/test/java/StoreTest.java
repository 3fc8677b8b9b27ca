/** Promise 2: store. */
public final class StoreTest {
    public static void main(String[] args) {
        numbers();
        bounds();
        gasFromLeastToMost();
        wrongArguments();
        onlyFive();
        takenUpWithGasAndHeat();
        Check.end();
    }

    private static void numbers() {
        Gasvault v = new Gasvault();
        for (int i = 0; i < 5; i++) {
            Check.same("number of store " + i, v.store(i % 3, 10 + i, i, 0, 1000, 0), i);
        }
        for (int i = 0; i < 5; i++) {
            Check.same("gas of store " + i, v.ofStore(i, 0), i);
            Check.same("room of store " + i, v.ofStore(i, 1), 10 + i);
            Check.same("volume of store " + i, v.ofStore(i, 2), 10 + i);
            Check.same("water of store " + i, v.ofStore(i, 3), 0);
            Check.same("no wells at first, in, " + i, v.rate(i, true), 0);
            Check.same("no wells at first, out, " + i, v.rate(i, false), 0);
        }
    }

    private static void bounds() {
        Check.taken("FIELD", Scenes::busy, v -> v.store(Gasvault.FIELD, 10, 5, 0, 100, 0));
        Check.taken("CAVERN", Scenes::busy, v -> v.store(Gasvault.CAVERN, 10, 5, 0, 100, 0));
        Check.taken("LAYER", Scenes::busy, v -> v.store(Gasvault.LAYER, 10, 5, 0, 100, 0));
        Check.taken("least volume", Scenes::busy, v -> v.store(0, 1, 0, 0, 100, 0));
        Check.taken("greatest volume", Scenes::busy, v -> v.store(0, 100000, 0, 0, 100, 0));
        Check.taken("greatest least", Scenes::busy, v -> v.store(0, 10, 100, 1000, 1000, 0));
        Check.taken("least is the greatest", Scenes::busy, v -> v.store(0, 100, 50, 50, 50, 0));
        Check.taken("greatest mark", Scenes::busy, v -> v.store(2, 10, 5, 0, 100, 1000000));
        Check.taken("all at their greatest", Scenes::busy, v -> v.store(2, 100000, 1000000, 1000, 1000, 1000000));
    }

    /** Volume 33, pressures 10 to 20: 3.3 to 6.6 units, so 4 to 6; volume 250, pressures 3 to 7: 7.5 to 17.5. */
    private static void gasFromLeastToMost() {
        for (int kind = 0; kind < 3; kind++) {
            int k = kind;
            Check.refused("below the least gas", Check.ARGUMENT, Scenes::busy, v -> v.store(k, 33, 3, 10, 20, 0));
            Check.taken("the least gas", Scenes::busy, v -> v.store(k, 33, 4, 10, 20, 0));
            Check.taken("the most gas", Scenes::busy, v -> v.store(k, 33, 6, 10, 20, 0));
            Check.refused("above the most gas", Check.ARGUMENT, Scenes::busy, v -> v.store(k, 33, 7, 10, 20, 0));
        }
        Check.refused("7 of 8 to 17", Check.ARGUMENT, Scenes::busy, v -> v.store(1, 250, 7, 3, 7, 0));
        Check.taken("8 of 8 to 17", Scenes::busy, v -> v.store(1, 250, 8, 3, 7, 0));
        Check.taken("17 of 8 to 17", Scenes::busy, v -> v.store(1, 250, 17, 3, 7, 0));
        Check.refused("18 of 8 to 17", Check.ARGUMENT, Scenes::busy, v -> v.store(1, 250, 18, 3, 7, 0));
        Check.refused("no gas fits from 1 to 0", Check.ARGUMENT, Scenes::busy, v -> v.store(0, 3, 0, 1, 1, 0));
        Check.refused("no gas fits from 1 to 0", Check.ARGUMENT, Scenes::busy, v -> v.store(0, 3, 1, 1, 1, 0));
        Check.refused("gas below 0", Check.ARGUMENT, Scenes::busy, v -> v.store(0, 10, -1, 0, 100, 0));
        Check.refused("gas 1000001", Check.ARGUMENT, Scenes::busy, v -> v.store(0, 100000, 1000001, 0, 1000, 0));
        Check.refused("much gas", Check.ARGUMENT, Scenes::busy, v -> v.store(0, 10, Integer.MAX_VALUE, 0, 100, 0));
        Check.refused("little gas", Check.ARGUMENT, Scenes::busy, v -> v.store(0, 10, Integer.MIN_VALUE, 0, 100, 0));
    }

    private static void wrongArguments() {
        wrong("kind -1", v -> v.store(-1, 10, 5, 0, 100, 0));
        wrong("kind 3", v -> v.store(3, 10, 5, 0, 100, 0));
        wrong("volume 0", v -> v.store(0, 0, 0, 0, 100, 0));
        wrong("volume -1", v -> v.store(0, -1, 0, 0, 100, 0));
        wrong("volume 100001", v -> v.store(0, 100001, 5, 0, 100, 0));
        wrong("volume greatest int", v -> v.store(0, Integer.MAX_VALUE, 5, 0, 100, 0));
        wrong("volume least int", v -> v.store(0, Integer.MIN_VALUE, 0, 0, 100, 0));
        wrong("least -1", v -> v.store(0, 10, 5, -1, 100, 0));
        wrong("least least int", v -> v.store(0, 10, 5, Integer.MIN_VALUE, 100, 0));
        wrong("least 1001", v -> v.store(0, 10, 100, 1001, 1001, 0));
        wrong("greatest below least", v -> v.store(0, 100, 50, 50, 49, 0));
        wrong("greatest 1001", v -> v.store(0, 10, 5, 0, 1001, 0));
        wrong("greatest -1", v -> v.store(0, 10, 0, 0, -1, 0));
        wrong("greatest greatest int", v -> v.store(0, 10, 5, 0, Integer.MAX_VALUE, 0));
        wrong("mark -1", v -> v.store(0, 10, 5, 0, 100, -1));
        wrong("mark 1000001", v -> v.store(2, 10, 5, 0, 100, 1000001));
    }

    private static void wrong(String what, Check.Call call) {
        Check.refused(what, Check.ARGUMENT, Scenes::busy, call);
        Check.refused(what + " and there are 5", Check.ARGUMENT, Scenes::full, call);
    }

    private static void onlyFive() {
        Check.same("the fifth", Scenes.busy().store(0, 10, 5, 0, 100, 0), 4);
        Check.refused("the sixth", Check.STATE, Scenes::full, v -> v.store(0, 10, 5, 0, 100, 0));
    }

    private static void takenUpWithGasAndHeat() {
        Gasvault v = new Gasvault();
        v.store(0, 100, 70, 0, 100, 0);
        v.heat(7);
        v.store(1, 100, 30, 0, 100, 0);
        Check.same("heat as it was at first", v.ofStore(0, 4), 700000);
        Check.same("heat as it was told then", v.ofStore(1, 4), 210);
        Check.same("came with stores", v.of(1), 100);
        Check.same("in all stores", v.of(4), 100);
        Check.same("nobody's", v.of(6), 100);
        Check.same("went out", v.of(2), 0);
        Check.same("lost", v.of(3), 0);
        Gasvault big = new Gasvault();
        big.heat(20000);
        big.store(2, 100000, 1000000, 1000, 1000, 1000000);
        Check.same("heat of much gas", big.ofStore(0, 4), 20000000000L);
    }
}
