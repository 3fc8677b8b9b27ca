/** Sentence by sentence, the edges that the document names for a day's end. */
public final class EdgesOfADayTest {
    private static final int FIELD = Gasvault.FIELD, CAVERN = Gasvault.CAVERN, LAYER = Gasvault.LAYER;

    public static void main(String[] args) throws ReflectiveOperationException {
        Sentences.test(EdgesOfADayTest.class);
    }

    private static Gasvault store(int kind, int volume, int gas, int greatest, int mark) {
        Gasvault v = new Gasvault();
        v.store(kind, volume, gas, 0, greatest, mark);
        return v;
    }

    @Says({"It is the next hour then.", "If its number is a multiple of 24, a day ends, for each store:"})
    private static void atMultiplesOf24() {
        long[] due = {0, 500, 997, 1492, 1984, 2474};
        Gasvault v = store(FIELD, 100000, 0, 1000, 1000);
        Check.same("at 0", v.ofStore(0, 3), 0);
        for (int hour = 1; hour <= 121; hour++) {
            Check.same("the next hour", v.pass(1), hour);
            Check.same("water at " + hour, v.ofStore(0, 3), due[hour / 24]);
        }
        for (int hours : new int[] {23, 24, 25, 47, 48, 49}) {
            Gasvault w = store(FIELD, 100000, 0, 1000, 1000);
            w.pass(hours);
            Check.same("water after " + hours + " at once", w.ofStore(0, 3), due[hours / 24]);
        }
        Gasvault all = new Gasvault();
        for (int i = 0; i < 5; i++) {
            all.store(FIELD, 100000, 0, 0, 1000, 1000);
        }
        all.pass(24);
        for (int i = 0; i < 5; i++) {
            Check.same("of store " + i, all.ofStore(i, 3), 500);
        }
        Gasvault late = new Gasvault();
        late.pass(23);
        late.store(FIELD, 100000, 0, 0, 1000, 1000);
        late.pass(1);
        Check.same("of one that was there for an hour", late.ofStore(0, 3), 500);
        Gasvault none = new Gasvault();
        Check.same("without stores", none.pass(48), 48);
    }

    private static void water(int volume, int gas, int mark, int due) {
        Gasvault v = store(FIELD, volume, gas, 1000, mark);
        v.pass(24);
        String what = gas + " in " + volume + " with a mark of " + mark;
        Check.same(what + ", water", v.ofStore(0, 3), due);
        Check.same(what + ", room", v.ofStore(0, 1), volume - due);
        Check.same(what + ", volume", v.ofStore(0, 2), volume);
    }

    @Says("of a FIELD the water becomes more by a 200th of its room, if its pressure is below its mark,")
    private static void waterComesBelowTheMark() {
        water(1000, 2989, 300, 5);
        water(1000, 2999, 300, 5);
        water(1000, 3000, 300, 0);
        water(1000, 3009, 300, 0);
        water(1000, 0, 0, 0);
        water(1000, 0, 1, 5);
        water(1000, 9, 1, 5);
        water(1000, 10, 1, 0);
        water(1, 0, 1000000, 0);
        water(199, 0, 1, 0);
        water(200, 0, 1, 1);
        water(399, 0, 1, 1);
        water(400, 0, 1, 2);
        water(100000, 0, 1, 500);
        Gasvault v = store(FIELD, 1000, 0, 1000, 1);
        int[] due = {0, 5, 9, 13, 17, 21, 25, 29, 33, 37, 41};
        for (int day = 1; day <= 10; day++) {
            v.pass(24);
            Check.same("a 200th of the room that is left, day " + day, v.ofStore(0, 3), due[day]);
        }
        Gasvault w = store(FIELD, 500, 0, 1000, 1);
        for (int days = 0; days < 410; days += 10) {
            w.pass(240);
        }
        Check.same("until the room is 199", w.ofStore(0, 1), 199);
        Check.same("and the water the rest", w.ofStore(0, 3), 301);
    }

    /** A mark of 100 and half as much gas, so that water comes for a day; then more gas, so that it goes. */
    private static void waterGoesFrom(int volume, int water, int days) {
        Gasvault v = store(FIELD, volume, volume / 2, 1000, 100);
        v.wells(0, 100, 1000);
        v.customer(1000000, 100000, 100000, 0);
        v.nominate(0, 26, volume);
        v.pass(24);
        Check.same("a day's water of " + volume, v.ofStore(0, 3), water);
        long before = water;
        for (int day = 0; day < days; day++) {
            v.pass(24);
            long less = before > 400 ? 3 : before > 200 ? 2 : before > 0 ? 1 : 0;
            Check.same("water after " + before, v.ofStore(0, 3), before - less);
            Check.same("room after " + before, v.ofStore(0, 1), volume - before + less);
            before -= less;
        }
    }

    @Says("and less by a 200th of the water, rounded up, if it is above it;")
    private static void waterGoesAboveTheMark() {
        waterGoesFrom(100000, 500, 100);
        waterGoesFrom(41000, 205, 10);
        waterGoesFrom(40000, 200, 100);
        waterGoesFrom(1000, 5, 8);
        waterGoesFrom(200, 1, 3);
        waterGoesFrom(199, 0, 3);
        edgeOfGoing();
    }

    /** With 5 of water and a room of 995: pressures of 300 and 301 at a mark of 300. */
    private static void edgeOfGoing() {
        int[][] due = {{2980, 9}, {2984, 9}, {2985, 5}, {2994, 5}, {2995, 4}, {3005, 4}};
        for (int[] row : due) {
            Gasvault v = store(FIELD, 1000, 2980, 1000, 300);
            v.wells(0, 100, 1000);
            v.customer(1000, 1000, 1000, 0);
            v.nominate(0, 30, row[0] - 2980);
            v.pass(24);
            Check.same("water", v.ofStore(0, 3), 5);
            v.pass(24);
            Check.same("gas", v.ofStore(0, 0), row[0]);
            Check.same("water then, with " + row[0] + " in 995", v.ofStore(0, 3), row[1]);
        }
        water(1000, 3010, 300, 0);
        water(1000, 10, 0, 0);
    }

    private static void creep(int volume, int gas, int mark, int due) {
        Gasvault v = store(CAVERN, volume, gas, 1000, mark);
        v.pass(23);
        String what = gas + " in " + volume + " with a mark of " + mark;
        Check.same(what + ", not yet", v.ofStore(0, 2), volume);
        v.pass(1);
        Check.same(what + ", volume", v.ofStore(0, 2), due);
        Check.same(what + ", room", v.ofStore(0, 1), due);
        Check.same(what + ", water", v.ofStore(0, 3), 0);
    }

    @Says("the volume of a CAVERN whose pressure is below its mark becomes less by the volume times how much it is"
            + " below, divided by 100000,")
    private static void cavernsCreepBelowTheMark() {
        creep(100000, 199999, 200, 99999);
        creep(100000, 200000, 200, 100000);
        creep(100000, 200999, 200, 100000);
        creep(100000, 201000, 200, 100000);
        creep(99999, 199997, 200, 99999);
        creep(50000, 0, 1, 50000);
        creep(50000, 0, 2, 49999);
        creep(50000, 0, 3, 49999);
        creep(50000, 0, 4, 49998);
        creep(500, 1310, 700, 498);
        creep(100, 0, 999, 100);
        creep(100, 0, 1000, 99);
        creep(10, 0, 0, 10);
        creep(100000, 0, 50000, 50000);
    }

    @Says("but is 1 at least;")
    private static void volumeOfOneAtLeast() {
        creep(100000, 0, 99998, 2);
        creep(100000, 0, 99999, 1);
        creep(100000, 0, 100000, 1);
        creep(100000, 0, 100001, 1);
        creep(100000, 0, 1000000, 1);
        creep(2, 0, 49999, 2);
        creep(2, 0, 50000, 1);
        creep(2, 0, 99999, 1);
        creep(2, 0, 100000, 1);
        creep(1, 0, 99999, 1);
        creep(1, 0, 100000, 1);
        creep(1, 0, 1000000, 1);
        Gasvault v = store(CAVERN, 1, 10, 1000, 1000000);
        v.pass(240);
        Check.same("for ever", v.ofStore(0, 2), 1);
        Check.same("with its gas", v.ofStore(0, 0), 10);
        Check.same("and its pressure", v.pressure(0), 1000);
    }

    private static void left(String what, Gasvault v, int mostGas, int gas, int lost) {
        v.pass(23);
        Check.same(what + ", nothing yet", v.of(3), 0);
        v.pass(1);
        Check.same(what + ", most gas", v.ofStore(0, 6), mostGas);
        Check.same(what + ", gas", v.ofStore(0, 0), gas);
        Check.same(what + ", heat", v.ofStore(0, 4), gas * 10000L);
        Check.same(what + ", lost", v.of(3), lost);
        Check.same(what + ", nothing went out", v.of(2), 0);
    }

    @Says("then, of a store of any kind, gas above its most gas is lost.")
    private static void gasAboveTheMostGasIsLost() {
        left("a field, 1 above", store(FIELD, 1000, 1991, 200, 1000), 1990, 1990, 1);
        left("a field, at it", store(FIELD, 1000, 1990, 200, 1000), 1990, 1990, 0);
        left("a field, 1 below", store(FIELD, 1000, 1989, 200, 1000), 1990, 1989, 0);
        left("a full field", store(FIELD, 1000, 2000, 200, 1000), 1990, 1990, 10);
        left("a full field at its mark", store(FIELD, 1000, 2000, 200, 200), 2000, 2000, 0);
        left("a cavern, 1 above", store(CAVERN, 500, 991, 200, 1198), 990, 990, 1);
        left("a cavern, at it", store(CAVERN, 500, 990, 200, 1198), 990, 990, 0);
        left("a cavern, 1 below", store(CAVERN, 500, 989, 200, 1197), 990, 989, 0);
        left("a full cavern of 1 then, which holds 2", store(CAVERN, 500, 1000, 200, 1000000), 2, 2, 998);
        left("a cavern of 1 then, which holds none", store(CAVERN, 500, 45, 9, 1000000), 0, 0, 45);
        left("a full layer", store(LAYER, 500, 1000, 200, 1000000), 1000, 1000, 0);
    }

    /** In its last hour the leak comes ahead of the end, whose pressure is that without what leaked. */
    @Says("If its number is a multiple of 24, a day ends,")
    private static void afterTheHourThatEndsIt() {
        Gasvault v = store(FIELD, 1000, 3000, 1000, 300);
        v.pass(23);
        v.leak(0, 1);
        v.pass(1);
        Check.same("below the mark by the leak", v.ofStore(0, 3), 5);
        Gasvault w = store(CAVERN, 1000, 3000, 300, 3300);
        w.pass(23);
        w.leak(0, 30);
        w.pass(1);
        Check.same("volume, less by 1000 times 3003 to 100000", w.ofStore(0, 2), 970);
        Check.same("60 above it", w.ofStore(0, 0), 2910);
        Check.same("lost", w.of(3), 90);
    }
}
