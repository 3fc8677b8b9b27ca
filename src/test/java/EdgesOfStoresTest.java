/** Sentence by sentence, the edges that the document names for stores: its terms, promises 2 to 6 and 13 to 16. */
public final class EdgesOfStoresTest {
    private static final int FIELD = Gasvault.FIELD, CAVERN = Gasvault.CAVERN, LAYER = Gasvault.LAYER;

    public static void main(String[] args) throws ReflectiveOperationException {
        Sentences.test(EdgesOfStoresTest.class);
    }

    private static Gasvault store(int kind, int volume, int gas, int least, int greatest, int mark) {
        Gasvault v = new Gasvault();
        v.store(kind, volume, gas, least, greatest, mark);
        return v;
    }

    /** The same of any kind; nothing moves in it, whatever the hours. */
    private static Gasvault layer(int volume, int gas, int least, int greatest) {
        return store(LAYER, volume, gas, least, greatest, 1000000);
    }

    // ---- terms

    @Says({"Stores are numbered from 0, at most 5;", "a store is a FIELD, a CAVERN or a LAYER"})
    private static void numberedFromNothingToFour() {
        for (int kind = FIELD; kind <= LAYER; kind++) {
            Gasvault v = new Gasvault();
            for (int i = 0; i < 5; i++) {
                Check.same("store " + i, v.store(kind, 10 + i, i, 0, 100, 0), i);
            }
            int k = kind;
            Check.same("a sixth", Check.answer(v, x -> x.store(k, 10, 0, 0, 100, 0)), Check.STATE.getName());
            for (int i = 0; i < 5; i++) {
                Check.same("volume of store " + i, v.ofStore(i, 2), 10 + i);
            }
        }
    }

    /** A FIELD of 199 gets no water (199 / 200), one of 200 gets 1. */
    @Says("Its room is its volume, of a FIELD less its water, 0 at first.")
    private static void roomWithoutTheWater() {
        roomOf(FIELD, 199, 0);
        roomOf(FIELD, 200, 1);
        roomOf(FIELD, 1, 0);
        roomOf(FIELD, 100000, 500);
        roomOf(LAYER, 100000, 0);
        roomOf(LAYER, 1, 0);
    }

    private static void roomOf(int kind, int volume, int water) {
        Gasvault v = store(kind, volume, 0, 0, 1000, 1);
        Check.same("room of " + volume + " at first", v.ofStore(0, 1), volume);
        Check.same("water of " + volume + " at first", v.ofStore(0, 3), 0);
        v.pass(24);
        Check.same("room of " + volume + " after a day", v.ofStore(0, 1), volume - water);
        Check.same("water of " + volume + " after a day", v.ofStore(0, 3), water);
        Check.same("volume of " + volume + " after a day", v.ofStore(0, 2), volume);
    }

    @Says({"Its pressure is 100 times its gas, divided by its room.",
            "all quotients are rounded down, if nothing else is told"})
    private static void pressureRoundedDown() {
        int[][] due = {{7, 0, 0}, {7, 1, 14}, {7, 3, 42}, {7, 6, 85}, {7, 7, 100}, {1000, 9, 0}, {1000, 10, 1},
                {1000, 19, 1}, {1000, 20, 2}, {1000, 9999, 999}, {1000, 10000, 1000}, {1, 0, 0}, {1, 10, 1000},
                {100000, 999, 0}, {100000, 1000, 1}, {100000, 999999, 999}, {100000, 1000000, 1000}};
        for (int[] row : due) {
            Check.same(row[1] + " in " + row[0], layer(row[0], row[1], 0, 1000).pressure(0), row[2]);
        }
    }

    @Says("Its least gas is the least pressure times the room, divided by 100, rounded up;")
    private static void leastGasRoundedUp() {
        int[][] due = {{1, 0, 0}, {100000, 0, 0}, {1, 1, 1}, {99, 1, 1}, {100, 1, 1}, {101, 1, 2}, {200, 1, 2},
                {201, 1, 3}, {1, 100, 1}, {1, 101, 2}, {1, 200, 2}, {3, 33, 1}, {3, 34, 2}, {99999, 999, 998991},
                {100000, 1000, 1000000}};
        for (int[] row : due) {
            Gasvault v = layer(row[0], row[2], row[1], 1000);
            Check.same(row[1] + " of " + row[0], v.ofStore(0, 5), row[2]);
            int below = row[2] - 1;
            Check.same(row[1] + " of " + row[0] + ", one less", Check.answer(new Gasvault(),
                    x -> x.store(LAYER, row[0], below, row[1], 1000, 0)), Check.ARGUMENT.getName());
        }
    }

    @Says("its most gas the greatest pressure times the room, divided by 100.")
    private static void mostGasRoundedDown() {
        int[][] due = {{1, 0, 0}, {100000, 0, 0}, {1, 1, 0}, {99, 1, 0}, {100, 1, 1}, {199, 1, 1}, {200, 1, 2},
                {1, 99, 0}, {1, 100, 1}, {1, 199, 1}, {1, 200, 2}, {3, 33, 0}, {3, 34, 1}, {99999, 999, 998990},
                {100000, 1000, 1000000}};
        for (int[] row : due) {
            Gasvault v = layer(row[0], row[2], 0, row[1]);
            Check.same(row[1] + " of " + row[0], v.ofStore(0, 6), row[2]);
            int above = row[2] + 1;
            Check.same(row[1] + " of " + row[0] + ", one more", Check.answer(new Gasvault(),
                    x -> x.store(LAYER, row[0], above, 0, row[1], 0)), Check.ARGUMENT.getName());
        }
    }

    private static void rates(String what, Gasvault v, int many, int strength, int in, int out) {
        Check.same(what + ", out then", v.wells(0, many, strength), out);
        Check.same(what + ", out", v.rate(0, false), out);
        Check.same(what + ", in", v.rate(0, true), in);
    }

    /** 50 in 100, 0 to 100: the pressure is 50 below the greatest one, and 50 more fit. */
    @Says("The rate in of a store is how many wells it has, times the strength, times how much its pressure is below"
            + " the greatest one, divided by 100, but at most its most gas less its gas;")
    private static void rateInUpToTheMostGas() {
        int[][] due = {{0, 0}, {1, 0}, {2, 1}, {3, 1}, {4, 2}, {97, 48}, {98, 49}, {99, 49}, {100, 50}, {101, 50},
                {102, 50}, {1000, 50}};
        for (int[] row : due) {
            Gasvault v = layer(100, 50, 0, 100);
            v.wells(0, 1, row[0]);
            Check.same("a strength of " + row[0], v.rate(0, true), row[1]);
            Gasvault w = layer(100, 50, 0, 100);
            w.wells(0, 100, row[0]);
            Check.same("100 wells of a strength of " + row[0], w.rate(0, true), Math.min(50, 50 * row[0]));
        }
        Gasvault full = layer(100, 99, 0, 100);
        rates("one below full", full, 100, 1000, 1, 99);
        rates("full", layer(100, 100, 0, 100), 100, 1000, 0, 100);
        rates("empty, the greatest rate", layer(100000, 0, 0, 1000), 100, 1000, 1000000, 0);
        rates("6 in 33 of 10 to 20, pressure 18, full", layer(33, 6, 10, 20), 100, 1000, 0, 2);
    }

    /** 50 in 100, 20 to 100: the pressure is 30 above the least one, and 30 may go. */
    @Says("the rate out likewise by how much its pressure is above the least one, and at most its gas less its least"
            + " gas;")
    private static void rateOutDownToTheLeastGas() {
        int[][] due = {{0, 0}, {3, 0}, {4, 1}, {6, 1}, {7, 2}, {96, 28}, {97, 29}, {99, 29}, {100, 30}, {103, 30},
                {104, 30}, {1000, 30}};
        for (int[] row : due) {
            Gasvault v = layer(100, 50, 20, 100);
            Check.same("a strength of " + row[0], v.wells(0, 1, row[0]), row[1]);
            Check.same("many of a strength of " + row[0], v.wells(0, row[0] / 10, 10),
                    Math.min(30, row[0] / 10 * 3));
        }
        rates("one above the least", layer(100, 21, 20, 100), 100, 1000, 79, 1);
        rates("at the least", layer(100, 20, 20, 100), 100, 1000, 80, 0);
        rates("4 in 33 of 10 to 20, pressure 12, at the least", layer(33, 4, 10, 20), 100, 1000, 2, 0);
        rates("full, the greatest rate", layer(100000, 1000000, 0, 1000), 100, 1000, 0, 1000000);
    }

    /** A leak takes it one below the least gas: 20 in 100 are 19 then. */
    @Says("each at least 0.")
    private static void noRateBelowNothing() {
        Gasvault v = layer(100, 21, 20, 100);
        v.wells(0, 100, 1000);
        v.leak(0, 1);
        Check.same("above the least gas", v.rate(0, false), 1);
        v.pass(1);
        Check.same("at the least gas", v.rate(0, false), 0);
        v.pass(1);
        Check.same("gas", v.ofStore(0, 0), 19);
        Check.same("below the least gas", v.rate(0, false), 0);
        Check.same("below the least gas, in", v.rate(0, true), 81);
        v.leak(0, 1000);
        v.pass(1);
        Check.same("without gas", v.rate(0, false), 0);
        Check.same("wells answers it", v.wells(0, 1, 1), 0);
        Check.same("without gas, in", v.rate(0, true), 1);
        rates("one pressure alone", layer(100, 50, 50, 50), 100, 1000, 0, 0);
    }

    /** 4 of one and 3 of two each, 10 in 3: a unit takes 3, then 3 of 7, then the last one all 4. */
    @Says("when gas goes out, or is lost, of the heat as much goes as that gas times the heat, divided by all gas as it"
            + " was ahead of that;")
    private static void heatGoesRoundedDownUntilNoneIsLeft() {
        Gasvault v = new Gasvault();
        v.heat(4);
        v.store(LAYER, 100, 1, 0, 1000, 1000000);
        v.wells(0, 100, 1000);
        v.customer(100, 100, 100, 0);
        v.heat(3);
        v.nominate(0, 2, 2);
        v.pass(3);
        v.leak(0, 1);
        long[] due = {10, 7, 4, 0, 0};
        for (int hour = 0; hour < due.length; hour++) {
            Check.same("heat after " + hour, v.ofStore(0, 4), due[hour]);
            Check.same("gas after " + hour, v.ofStore(0, 0), Math.max(0, 3 - hour));
            v.pass(1);
        }
        Gasvault much = new Gasvault();
        much.heat(20000);
        much.store(LAYER, 100000, 1000000, 0, 1000, 1);
        much.pass(1);
        Check.same("999999 of 1000000 go, with 19999980000 of 20000000000", much.ofStore(0, 4), 20000);
    }

    /** 33 in 6: what goes out takes 1 with 5, the leak then 1 with 5 (28 / 5); 2 at once would take 11. */
    @Says("what goes out in an hour, a leak, what is above the mark, and what a day's end takes, each by itself.")
    private static void eachTakesItsHeatByItself() {
        Gasvault v = new Gasvault();
        v.heat(10);
        v.store(FIELD, 100, 3, 0, 1000, 0);
        v.wells(0, 100, 1000);
        v.customer(100, 100, 100, 0);
        v.heat(1);
        v.nominate(0, 2, 3);
        v.nominate(0, 5, -1);
        v.pass(5);
        Check.same("heat of 6", v.ofStore(0, 4), 33);
        v.leak(0, 1);
        v.pass(1);
        Check.same("gas, less 1 out and 1 of a leak", v.ofStore(0, 0), 4);
        Check.same("heat, less 5 and 5", v.ofStore(0, 4), 23);
        markByItself();
        endOfDayByItself();
    }

    /** 62 in 8: the leak takes 1 with 7, the mark then 1 with 7 (55 / 7); 2 at once would take 15. */
    private static void markByItself() {
        Gasvault v = new Gasvault();
        v.heat(10);
        v.store(LAYER, 100, 6, 0, 1000, 6);
        v.wells(0, 100, 1000);
        v.customer(100, 100, 100, 0);
        v.heat(1);
        v.nominate(0, 2, 2);
        v.pass(2);
        v.leak(0, 1);
        v.pass(1);
        Check.same("gas, less 1 of a leak and 1 above the mark", v.ofStore(0, 0), 6);
        Check.same("heat, less 7 and 7", v.ofStore(0, 4), 48);
    }

    /** 22 in 4: the leak takes 1 with 5, the day's end then 1 with 5 (17 / 3); 2 at once would take 11. */
    private static void endOfDayByItself() {
        Gasvault v = new Gasvault();
        v.heat(10);
        v.store(CAVERN, 100, 1, 0, 200, 1000000);
        v.wells(0, 100, 1000);
        v.customer(100, 100, 100, 0);
        v.heat(4);
        v.nominate(0, 2, 3);
        v.pass(23);
        Check.same("heat of 4", v.ofStore(0, 4), 22);
        v.leak(0, 1);
        v.pass(1);
        Check.same("volume", v.ofStore(0, 2), 1);
        Check.same("gas", v.ofStore(0, 0), 2);
        Check.same("heat, less 5 and 5", v.ofStore(0, 4), 12);
        Check.same("lost", v.of(3), 2);
    }

    /** 24929 * 673 is 16777217, of which a float makes 16777216; divided by 24929 that is below 673. */
    @Says("The mix of a store is its heat, as a float, divided by its gas, as a float, cut; 0 without gas.")
    private static void mixAsFloatsCut() {
        Gasvault v = new Gasvault();
        v.heat(673);
        v.store(LAYER, 100000, 24929, 0, 1000, 1000000);
        v.store(LAYER, 100000, 24928, 0, 1000, 1000000);
        v.store(LAYER, 100000, 1, 0, 1000, 1000000);
        v.store(LAYER, 100000, 0, 0, 1000, 1000000);
        Check.same("the heat is no float", v.ofStore(0, 4), 16777217);
        Check.same("one less by it", v.mix(0), 672);
        Check.same("the heat is a float", v.mix(1), 673);
        Check.same("a single unit", v.mix(2), 673);
        Check.same("without gas", v.mix(3), 0);
        v.leak(2, 1);
        v.pass(1);
        Check.same("when the single unit is lost", v.mix(2), 0);
        Gasvault most = new Gasvault();
        most.heat(20000);
        most.store(LAYER, 100000, 32769, 0, 1000, 1000000);
        Check.same("655379968 by 32769 is a float of 20000, though less than that", most.mix(0), 20000);
        Gasvault w = new Gasvault();
        w.heat(2);
        w.store(LAYER, 100, 1, 0, 1000, 1000);
        w.wells(0, 100, 1000);
        w.customer(10, 10, 10, 0);
        w.heat(1);
        w.nominate(0, 2, 1);
        w.pass(3);
        Check.same("3 in 2, cut", w.mix(0), 1);
    }

    // ---- promise 2

    @Says(promise = 2, value = "`kind`: FIELD to LAYER")
    private static void kinds() {
        Check.range("kind", FIELD, LAYER, Scenes::busy, (v, kind) -> v.store(kind, 10, 5, 0, 100, 0));
        Gasvault v = new Gasvault();
        for (int kind = FIELD; kind <= LAYER; kind++) {
            v.store(kind, 1000, 900, 0, 1000, 800);
        }
        v.pass(24);
        long[][] due = {{900, 995, 1000, 5}, {900, 993, 993, 0}, {800, 1000, 1000, 0}};
        for (int kind = FIELD; kind <= LAYER; kind++) {
            for (int what = 0; what < 4; what++) {
                Check.same("kind " + kind + ", what " + what, v.ofStore(kind, what), due[kind][what]);
            }
        }
    }

    @Says(promise = 2, value = "`volume`: 1 to 100000")
    private static void volumes() {
        for (int kind = FIELD; kind <= LAYER; kind++) {
            int k = kind;
            Check.range("volume", 1, 100000, Scenes::busy, (v, volume) -> v.store(k, volume, 0, 0, 100, 0));
            Check.same("the least one", store(kind, 1, 0, 0, 100, 0).ofStore(0, 2), 1);
            Check.same("the greatest one", store(kind, 100000, 0, 0, 100, 0).ofStore(0, 2), 100000);
        }
        Check.refused("volume 0 with pressures that want none", Check.ARGUMENT, Gasvault::new,
                v -> v.store(FIELD, 0, 0, 0, 0, 0));
    }

    @Says(promise = 2, value = "`gas`: from its least gas to its most gas")
    private static void gasFromLeastToMost() {
        for (int kind = FIELD; kind <= LAYER; kind++) {
            int k = kind;
            Check.range("gas", 4, 6, Scenes::busy, (v, gas) -> v.store(k, 33, gas, 10, 20, 0));
            Check.range("gas", 8, 17, Scenes::busy, (v, gas) -> v.store(k, 250, gas, 3, 7, 0));
        }
        Check.range("gas", 0, 0, Scenes::busy, (v, gas) -> v.store(FIELD, 1, gas, 0, 0, 0));
        Check.range("gas", 0, 1000000, Scenes::busy, (v, gas) -> v.store(FIELD, 100000, gas, 0, 1000, 0));
        Check.range("gas", 1000000, 1000000, Scenes::busy, (v, gas) -> v.store(FIELD, 100000, gas, 1000, 1000, 0));
        for (int gas = -1; gas <= 2; gas++) {
            int g = gas;
            Check.refused("none fits from 1 to 0, gas " + gas, Check.ARGUMENT, Gasvault::new,
                    v -> v.store(FIELD, 99, g, 1, 1, 0));
        }
        Check.same("the least gas it may have", layer(33, 4, 10, 20).ofStore(0, 0), 4);
        Check.same("the most gas it may have", layer(33, 6, 10, 20).ofStore(0, 0), 6);
    }

    @Says(promise = 2, value = "`least`: 0 to 1000: the least pressure")
    private static void leastPressures() {
        Check.range("least", 0, 1000, Scenes::busy, (v, least) -> v.store(CAVERN, 10, 100, least, 1000, 0));
        Check.range("least up to the greatest", 0, 40, Scenes::busy, (v, least) -> v.store(CAVERN, 10, 4, least, 40, 0));
        Check.same("the least one", layer(100, 0, 0, 1000).ofStore(0, 5), 0);
        Check.same("the greatest one", layer(100, 1000, 1000, 1000).ofStore(0, 5), 1000);
    }

    @Says(promise = 2, value = "`greatest`: least to 1000")
    private static void greatestPressures() {
        Check.range("greatest", 50, 1000, Scenes::busy, (v, greatest) -> v.store(LAYER, 100, 50, 50, greatest, 0));
        Check.range("greatest", 0, 1000, Scenes::busy, (v, greatest) -> v.store(LAYER, 100, 0, 0, greatest, 0));
        Check.range("greatest", 1000, 1000, Scenes::busy, (v, greatest) -> v.store(LAYER, 1, 10, 1000, greatest, 0));
        Check.same("the least one", layer(100, 0, 0, 0).ofStore(0, 6), 0);
        Check.same("the greatest one", layer(100, 0, 0, 1000).ofStore(0, 6), 1000);
    }

    @Says(promise = 2, value = "`mark`: 0 to 1000000: a pressure of a FIELD or CAVERN, gas of a LAYER")
    private static void marks() {
        for (int kind = FIELD; kind <= LAYER; kind++) {
            int k = kind;
            Check.range("mark", 0, 1000000, Scenes::busy, (v, mark) -> v.store(k, 10, 5, 0, 100, mark));
        }
        ofADay("a FIELD with the least mark", store(FIELD, 1000, 900, 0, 1000, 0), 900, 1000);
        ofADay("a FIELD with the greatest mark", store(FIELD, 1000, 900, 0, 1000, 1000000), 900, 995);
        ofADay("a CAVERN with the least mark", store(CAVERN, 1000, 900, 0, 1000, 0), 900, 1000);
        ofADay("a CAVERN with the greatest mark", store(CAVERN, 1000, 900, 0, 1000, 1000000), 10, 1);
        ofADay("a LAYER with the least mark", store(LAYER, 1000, 900, 0, 1000, 0), 0, 1000);
        ofADay("a LAYER with the greatest mark", store(LAYER, 100000, 1000000, 0, 1000, 1000000), 1000000, 100000);
        ofADay("a LAYER with one less", store(LAYER, 100000, 1000000, 0, 1000, 999999), 999999, 100000);
    }

    private static void ofADay(String what, Gasvault v, int gas, int room) {
        v.pass(24);
        Check.same(what + ", gas", v.ofStore(0, 0), gas);
        Check.same(what + ", room", v.ofStore(0, 1), room);
    }

    @Says(promise = 2, value = {"Throws `IllegalArgumentException` if an argument is out of range",
            "Throws `IllegalStateException` if there are 5"})
    private static void fiveStores() {
        Check.same("the fifth", Scenes.busy().store(LAYER, 10, 5, 0, 100, 0), 4);
        for (int kind = FIELD; kind <= LAYER; kind++) {
            int k = kind;
            Check.refused("a sixth", Check.STATE, Scenes::full, v -> v.store(k, 10, 5, 0, 100, 0));
        }
        Check.refused("a sixth, kind 3", Check.ARGUMENT, Scenes::full, v -> v.store(3, 10, 5, 0, 100, 0));
        Check.refused("a sixth, kind -1", Check.ARGUMENT, Scenes::full, v -> v.store(-1, 10, 5, 0, 100, 0));
        Check.refused("a sixth, volume 0", Check.ARGUMENT, Scenes::full, v -> v.store(0, 0, 0, 0, 100, 0));
        Check.refused("a sixth, volume 100001", Check.ARGUMENT, Scenes::full, v -> v.store(0, 100001, 5, 0, 100, 0));
        Check.refused("a sixth, gas -1", Check.ARGUMENT, Scenes::full, v -> v.store(0, 10, -1, 0, 100, 0));
        Check.refused("a sixth, gas 11", Check.ARGUMENT, Scenes::full, v -> v.store(0, 10, 11, 0, 100, 0));
        Check.refused("a sixth, least -1", Check.ARGUMENT, Scenes::full, v -> v.store(0, 10, 5, -1, 100, 0));
        Check.refused("a sixth, least 1001", Check.ARGUMENT, Scenes::full, v -> v.store(0, 10, 100, 1001, 1001, 0));
        Check.refused("a sixth, greatest 1001", Check.ARGUMENT, Scenes::full, v -> v.store(0, 10, 5, 0, 1001, 0));
        Check.refused("a sixth, mark -1", Check.ARGUMENT, Scenes::full, v -> v.store(0, 10, 5, 0, 100, -1));
        Check.refused("a sixth, mark 1000001", Check.ARGUMENT, Scenes::full, v -> v.store(0, 10, 5, 0, 100, 1000001));
    }

    // ---- promises 3 and 4

    @Says(promise = 3, value = {"`store`: the number of a store",
            "Throws `IndexOutOfBoundsException` if there is no such store"})
    private static void wellsOfAStore() {
        Check.onStores((v, store) -> v.wells(store, 5, 5));
        Check.onStores((v, store) -> v.wells(store, 0, 1000));
        Check.refused("store 4 of four, many 101", Check.INDEX, Scenes::busy, v -> v.wells(4, 101, 5));
        Check.refused("store -1, many -1", Check.INDEX, Scenes::busy, v -> v.wells(-1, -1, 5));
        Check.refused("store 5 of five, strength 1001", Check.INDEX, Scenes::full, v -> v.wells(5, 5, 1001));
        Check.refused("store 0 of none, strength -1", Check.INDEX, Gasvault::new, v -> v.wells(0, 5, -1));
    }

    /** A pressure of 200 above the least one, 2000 above the least gas. */
    @Says(promise = 3, value = {"`many`: 0 to 100", "Throws `IllegalArgumentException` if many or strength is out of"
            + " range"})
    private static void manyWells() {
        Check.range("many", 0, 100, Scenes::busy, (v, many) -> v.wells(2, many, 7));
        Check.same("none", layer(1000, 2000, 0, 1000).wells(0, 0, 7), 0);
        Check.same("one", layer(1000, 2000, 0, 1000).wells(0, 1, 7), 14);
        Check.same("100", layer(1000, 2000, 0, 1000).wells(0, 100, 7), 1400);
    }

    @Says(promise = 3, value = "`strength`: 0 to 1000")
    private static void strengths() {
        Check.range("strength", 0, 1000, Scenes::busy, (v, strength) -> v.wells(2, 3, strength));
        Check.refused("both out of range", Check.ARGUMENT, Scenes::busy, v -> v.wells(2, 101, 1001));
        Check.same("none", layer(1000, 2000, 0, 1000).wells(0, 1, 0), 0);
        Check.same("one", layer(1000, 2000, 0, 1000).wells(0, 1, 1), 2);
        Check.same("1000", layer(1000, 2000, 0, 1000).wells(0, 1, 1000), 2000);
        Check.same("999", layer(1000, 2000, 0, 1000).wells(0, 1, 999), 1998);
    }

    @Says(promise = 3, value = "from now on; none at first.")
    private static void noWellsAtFirst() {
        Gasvault v = layer(1000, 2000, 0, 1000);
        Check.same("in", v.rate(0, true), 0);
        Check.same("out", v.rate(0, false), 0);
        v.wells(0, 1, 7);
        Check.same("told", v.rate(0, false), 14);
        v.wells(0, 0, 0);
        Check.same("told anew", v.rate(0, false), 0);
    }

    @Says(promise = 4, value = {"`store`: the number of a store",
            "Throws `IndexOutOfBoundsException` if there is no such store"})
    private static void leakOfAStore() {
        Check.onStores((v, store) -> v.leak(store, 5));
        Check.refused("store 4 of four, units 1001", Check.INDEX, Scenes::busy, v -> v.leak(4, 1001));
        Check.refused("store -1, units -1", Check.INDEX, Scenes::busy, v -> v.leak(-1, -1));
        Check.refused("store 0 of none, units -1", Check.INDEX, Gasvault::new, v -> v.leak(0, -1));
    }

    @Says(promise = 4, value = {"`units`: 0 to 1000: for an hour",
            "Throws `IllegalArgumentException` if units is out of range"})
    private static void leaks() {
        Check.range("units", 0, 1000, Scenes::busy, (v, units) -> v.leak(2, units));
        for (int units : new int[] {0, 1, 999, 1000}) {
            Gasvault v = layer(1000, 5000, 0, 1000);
            v.leak(0, units);
            v.pass(1);
            Check.same("lost in an hour", v.of(3), units);
            v.pass(1);
            Check.same("lost in two", v.of(3), 2 * units);
            Check.same("the one before", v.leak(0, 3), units);
        }
    }

    @Says(promise = 4, value = "from now on; 0 at first.")
    private static void noLeakAtFirst() {
        Gasvault v = layer(1000, 5000, 0, 1000);
        v.pass(1);
        Check.same("lost", v.of(3), 0);
        Check.same("the one before", v.leak(0, 7), 0);
    }

    // ---- promise 5

    /** Caverns: of 10, of 99990, of 10 with 1 unit, of 100000; and an empty field. */
    private static Gasvault caverns() {
        Gasvault v = new Gasvault();
        v.store(CAVERN, 10, 0, 0, 500, 0);
        v.store(CAVERN, 99990, 0, 0, 500, 0);
        v.store(CAVERN, 10, 1, 0, 500, 0);
        v.store(CAVERN, 100000, 0, 0, 500, 0);
        v.store(FIELD, 10, 0, 0, 500, 0);
        return v;
    }

    private static Gasvault layers() {
        Gasvault v = new Gasvault();
        v.store(LAYER, 10, 0, 0, 500, 0);
        v.store(LAYER, 10, 1, 0, 500, 5);
        return v;
    }

    @Says(promise = 5, value = {"`store`: the number of a store",
            "Throws `IndexOutOfBoundsException` if there is no such store"})
    private static void leachOfAStore() {
        Check.outside("store of five", 0, 4, Check.INDEX, EdgesOfStoresTest::caverns, (v, store) -> v.leach(store, 5));
        Check.outside("store of two", 0, 1, Check.INDEX, EdgesOfStoresTest::layers, (v, store) -> v.leach(store, 5));
        Check.outside("store of none", 0, -1, Check.INDEX, Gasvault::new, (v, store) -> v.leach(store, 5));
        Check.outside("store, more 0", 0, 4, Check.INDEX, EdgesOfStoresTest::caverns, (v, store) -> v.leach(store, 0));
        Check.taken("the first store", EdgesOfStoresTest::caverns, v -> v.leach(0, 5));
        Check.taken("the last cavern", Scenes::busy, v -> v.leach(3, 5));
    }

    @Says(promise = 5, value = {"`more`: 1 to 100000", "Throws `IllegalArgumentException` if more is out of range"})
    private static void more() {
        for (int store = 0; store < 5; store++) {
            int s = store;
            Check.outside("store " + s + ", more", 1, 100000, Check.ARGUMENT, EdgesOfStoresTest::caverns,
                    (v, more) -> v.leach(s, more));
        }
        Check.outside("a layer, more", 1, 100000, Check.ARGUMENT, EdgesOfStoresTest::layers,
                (v, more) -> v.leach(0, more));
        Check.same("1 more", caverns().leach(0, 1), 11);
        Check.refused("100000 more is too much in any state alone", Check.STATE, EdgesOfStoresTest::caverns,
                v -> v.leach(0, 100000));
        Gasvault v = store(CAVERN, 1, 0, 0, 500, 0);
        Check.refused("100000 more of 1", Check.STATE, () -> store(CAVERN, 1, 0, 0, 500, 0), x -> x.leach(0, 100000));
        Check.same("99999 more of 1", v.leach(0, 99999), 100000);
    }

    @Says(promise = 5, value = {"Leaches a CAVERN without gas.", "Throws `IllegalStateException` if it is no CAVERN, has"
            + " gas, or its volume would be above 100000"})
    private static void onlyCavernsWithoutGas() {
        Check.refused("a FIELD", Check.STATE, EdgesOfStoresTest::caverns, v -> v.leach(4, 1));
        Check.refused("a LAYER", Check.STATE, EdgesOfStoresTest::layers, v -> v.leach(0, 1));
        Check.refused("a LAYER with gas", Check.STATE, EdgesOfStoresTest::layers, v -> v.leach(1, 1));
        Check.refused("a single unit of gas", Check.STATE, EdgesOfStoresTest::caverns, v -> v.leach(2, 1));
        Check.refused("a single unit of gas, too much", Check.STATE, EdgesOfStoresTest::caverns,
                v -> v.leach(2, 100000));
        Gasvault v = caverns();
        v.leak(2, 1);
        v.pass(1);
        Check.same("when it is lost", v.leach(2, 1), 11);
        Check.same("to 100000", caverns().leach(1, 10), 100000);
        Check.refused("to 100001", Check.STATE, EdgesOfStoresTest::caverns, x -> x.leach(1, 11));
        Check.refused("of 100000, 1 more", Check.STATE, EdgesOfStoresTest::caverns, x -> x.leach(3, 1));
        Check.refused("of 100000, 100000 more", Check.STATE, EdgesOfStoresTest::caverns, x -> x.leach(3, 100000));
        Gasvault w = store(CAVERN, 10, 0, 0, 500, 50);
        w.leach(0, 20);
        Check.same("volume", w.ofStore(0, 2), 30);
        Check.same("room", w.ofStore(0, 1), 30);
        Check.same("most gas", w.ofStore(0, 6), 150);
        Check.same("gas", w.ofStore(0, 0), 0);
        Check.same("heat", w.ofStore(0, 4), 0);
        Check.same("mix", w.mix(0), 0);
        Check.same("pressure", w.pressure(0), 0);
    }

    // ---- promise 6

    @Says(promise = 6, value = {"`heat`: 0 to 20000", "Throws `IllegalArgumentException` if heat is out of range"})
    private static void heats() {
        Check.range("heat", 0, 20000, Scenes::busy, (v, heat) -> v.heat(heat));
        Check.range("heat", 0, 20000, Gasvault::new, (v, heat) -> v.heat(heat));
        for (int heat : new int[] {0, 1, 19999, 20000}) {
            Gasvault v = new Gasvault();
            v.heat(heat);
            v.store(LAYER, 100, 3, 0, 1000, 1000);
            Check.same("heat of 3 units", v.ofStore(0, 4), 3 * heat);
            Check.same("the one before", v.heat(0), heat);
        }
    }

    @Says("so much for each unit of gas that came in, or with which it was taken up, as it was told then;")
    private static void heatAsItWasToldThen() {
        Gasvault v = new Gasvault();
        v.store(LAYER, 100, 1, 0, 1000, 1000);
        v.wells(0, 100, 1000);
        v.customer(100, 100, 100, 0);
        v.nominate(0, 2, 1);
        v.nominate(0, 3, 1);
        v.heat(0);
        Check.same("taken up with the one at first", v.ofStore(0, 4), 10000);
        v.pass(2);
        v.heat(20000);
        v.pass(1);
        Check.same("not as it was when it was nominated", v.ofStore(0, 4), 30000);
        v.heat(0);
        v.pass(1);
        Check.same("of none", v.ofStore(0, 4), 30000);
        Check.same("gas", v.ofStore(0, 0), 3);
    }

    // ---- promises 13 to 16

    @Says(promise = 13, value = "@throws IndexOutOfBoundsException if there is no such store")
    private static void pressureOfAStore() {
        Check.onStores(Gasvault::pressure);
    }

    @Says(promise = 14, value = {"`store`: the number of a store",
            "Throws `IndexOutOfBoundsException` if there is no such store"})
    private static void rateOfAStore() {
        Check.onStores((v, store) -> v.rate(store, true));
        Check.onStores((v, store) -> v.rate(store, false));
    }

    @Says(promise = 14, value = "`isIn`: whether in, otherwise out")
    private static void rateInOrOut() {
        Gasvault v = layer(1000, 2000, 100, 1000);
        v.wells(0, 1, 1);
        Check.same("in", v.rate(0, true), 8);
        Check.same("out", v.rate(0, false), 1);
    }

    @Says(promise = 15, value = "@throws IndexOutOfBoundsException if there is no such store")
    private static void mixOfAStore() {
        Check.onStores(Gasvault::mix);
    }

    @Says(promise = 16, value = {"`store`: the number of a store",
            "Throws `IndexOutOfBoundsException` if there is no such store"})
    private static void ofAStore() {
        for (int what = 0; what <= 6; what++) {
            int w = what;
            Check.onStores((v, store) -> v.ofStore(store, w));
        }
        Check.refused("store 4 of four, what 7", Check.INDEX, Scenes::busy, v -> v.ofStore(4, 7));
        Check.refused("store -1, what -1", Check.INDEX, Scenes::busy, v -> v.ofStore(-1, -1));
        Check.refused("store 0 of none, what 7", Check.INDEX, Gasvault::new, v -> v.ofStore(0, 7));
    }

    @Says(promise = 16, value = {"`what`: 0 its gas, 1 its room, 2 its volume, 3 its water, 4 its heat, 5 its least gas,"
            + " 6 its most gas", "Throws `IllegalArgumentException` if what is out of range"})
    private static void whatOfAStore() {
        for (int store = 0; store < 5; store++) {
            int s = store;
            Check.range("store " + s + ", what", 0, 6, Scenes::full, (v, what) -> v.ofStore(s, what));
        }
        Gasvault v = store(FIELD, 1000, 2000, 153, 777, 300);
        v.pass(24);
        long[] due = {2000, 995, 1000, 5, 20000000, 1523, 7731};
        for (int what = 0; what < 7; what++) {
            Check.same("what " + what, v.ofStore(0, what), due[what]);
        }
    }
}
