/** Promise 12: what a day's end does. */
public final class DayTest {
    public static void main(String[] args) {
        waterComes();
        waterGoes();
        waterMovesByWhatWas();
        cavernsCreep();
        layersStay();
        gasAboveTheMostIsLost();
        atMultiplesOf24Alone();
        Check.end();
    }

    /** 200 at first, below the mark of 205: 5, 4, 4, 4, 4, 4 come (a 200th of 1000, 995, 991, ..), until it is 205. */
    private static void waterComes() {
        Gasvault v = new Gasvault();
        v.store(Gasvault.FIELD, 1000, 2000, 0, 1000, 205);
        int[] water = {5, 9, 13, 17, 21, 25, 25, 25};
        for (int day = 0; day < water.length; day++) {
            v.pass(24);
            Check.same("water after day " + day, v.ofStore(0, 3), water[day]);
            Check.same("room after day " + day, v.ofStore(0, 1), 1000 - water[day]);
            Check.same("volume after day " + day, v.ofStore(0, 2), 1000);
            Check.same("gas after day " + day, v.ofStore(0, 0), 2000);
        }
        Check.same("pressure then", v.pressure(0), 205);
        comes(199, 0);
        comes(200, 1);
        comes(399, 1);
        comes(100000, 500);
        comes(1, 0);
    }

    private static void comes(int volume, int water) {
        Gasvault v = new Gasvault();
        v.store(Gasvault.FIELD, volume, 0, 0, 1000, 1);
        v.pass(24);
        Check.same("water of " + volume, v.ofStore(0, 3), water);
    }

    /** Water comes for a day or two, then gas: above the mark a 200th of the water goes, rounded up. */
    private static void waterGoes() {
        Gasvault v = new Gasvault();
        v.store(Gasvault.FIELD, 100000, 99000, 0, 1000, 100);
        v.wells(0, 100, 1000);
        v.customer(1000000, 100000, 100000, 0);
        v.pass(24);
        Check.same("99 of 100: water", v.ofStore(0, 3), 500);
        Check.same("99 of 100, in 99500", v.pressure(0), 99);
        v.pass(24);
        Check.same("more water: 99500 / 200", v.ofStore(0, 3), 997);
        Check.same("99 of 100, in 99003", v.pressure(0), 99);
        v.nominate(0, 50, 50000);
        v.pass(23);
        Check.same("above the mark", v.pressure(0), 150);
        Check.same("not yet", v.ofStore(0, 3), 997);
        long[] due = {992, 987, 982};
        for (int day = 0; day < due.length; day++) {
            v.pass(day == 0 ? 1 : 24);
            Check.same("a 200th less, rounded up", v.ofStore(0, 3), due[day]);
        }
        goesToNothing();
    }

    /** 5 of water go by 1 a day, and then none. */
    private static void goesToNothing() {
        Gasvault v = new Gasvault();
        v.store(Gasvault.FIELD, 1000, 2990, 0, 1000, 300);
        v.wells(0, 100, 1000);
        v.customer(1000000, 100000, 100000, 0);
        v.nominate(0, 24, 500);
        v.pass(24);
        Check.same("water", v.ofStore(0, 3), 5);
        Check.same("at the mark", v.pressure(0), 300);
        for (int water = 4; water >= -2; water--) {
            v.pass(24);
            Check.same("water", v.ofStore(0, 3), Math.max(0, water));
        }
        Check.same("room", v.ofStore(0, 1), 1000);
    }

    /** Exactly at the mark neither comes nor goes; one pressure beside it does. */
    private static void waterMovesByWhatWas() {
        Gasvault v = new Gasvault();
        v.store(Gasvault.FIELD, 1000, 3000, 0, 1000, 300);
        v.store(Gasvault.FIELD, 1000, 2999, 0, 1000, 300);
        v.store(Gasvault.FIELD, 1000, 3009, 0, 1000, 300);
        v.store(Gasvault.FIELD, 1000, 3010, 0, 1000, 300);
        v.pass(24);
        Check.same("at the mark", v.ofStore(0, 3), 0);
        Check.same("just below the mark", v.ofStore(1, 3), 5);
        Check.same("at the mark, cut", v.ofStore(2, 3), 0);
        Check.same("above the mark, without water", v.ofStore(3, 3), 0);
        v.pass(24);
        Check.same("2999 in 995 is 301, above", v.ofStore(1, 3), 4);
    }

    private static void cavernsCreep() {
        creeps("262 below 700", 500, 1310, 700, 498);
        creeps("at the mark", 500, 3500, 700, 500);
        creeps("above the mark", 500, 3600, 700, 500);
        creeps("below by 1, too little", 50000, 99999, 200, 50000);
        creeps("below by 1, of 100000", 100000, 199999, 200, 99999);
        creeps("below by 1, of 99999", 99999, 199000, 200, 99999);
        creeps("by half", 100000, 0, 50000, 50000);
        creeps("by nearly all", 100000, 0, 99999, 1);
        creeps("by all", 100000, 0, 100000, 1);
        creeps("by more than all", 100000, 0, 1000000, 1);
        creeps("of 1", 1, 0, 1000000, 1);
        creeps("a mark of 0", 10, 0, 0, 10);
        creeps("3 of 7: 2.1", 7, 0, 30000, 5);
    }

    private static void creeps(String what, int volume, int gas, int mark, int due) {
        Gasvault v = new Gasvault();
        v.store(Gasvault.CAVERN, volume, gas, 0, 1000, mark);
        v.pass(23);
        Check.same(what + ", not yet", v.ofStore(0, 2), volume);
        v.pass(1);
        Check.same(what + ", volume", v.ofStore(0, 2), due);
        Check.same(what + ", room", v.ofStore(0, 1), due);
        Check.same(what + ", no water", v.ofStore(0, 3), 0);
        Check.same(what + ", gas", v.ofStore(0, 0), gas);
        v.pass(24);
        if (volume == due) {
            Check.same(what + ", on and on", v.ofStore(0, 2), due);
        }
    }

    private static void layersStay() {
        Gasvault v = new Gasvault();
        v.store(Gasvault.LAYER, 1000, 2000, 0, 1000, 1000000);
        v.store(Gasvault.LAYER, 1000, 2000, 0, 1000, 2000);
        v.pass(24);
        for (int i = 0; i < 2; i++) {
            Check.same("a layer's water", v.ofStore(i, 3), 0);
            Check.same("a layer's volume", v.ofStore(i, 2), 1000);
            Check.same("a layer's gas", v.ofStore(i, 0), 2000);
        }
    }

    /** Full ones lose what their smaller room cannot hold at the greatest pressure, with its heat. */
    private static void gasAboveTheMostIsLost() {
        Gasvault v = new Gasvault();
        v.store(Gasvault.FIELD, 1000, 2000, 150, 200, 201);
        v.heat(50);
        v.store(Gasvault.CAVERN, 500, 1000, 0, 200, 1200);
        v.pass(23);
        Check.same("nothing yet", v.of(3), 0);
        v.pass(1);
        Check.same("field: most gas of 995", v.ofStore(0, 6), 1990);
        Check.same("field: least gas of 995, rounded up", v.ofStore(0, 5), 1493);
        Check.same("field: gas", v.ofStore(0, 0), 1990);
        Check.same("field: heat", v.ofStore(0, 4), 19900000);
        Check.same("cavern: volume, less by 500 * 1000 / 100000", v.ofStore(1, 2), 495);
        Check.same("cavern: gas", v.ofStore(1, 0), 990);
        Check.same("cavern: heat", v.ofStore(1, 4), 49500);
        Check.same("lost", v.of(3), 20);
        Check.same("in all stores", v.of(4), 2980);
        Check.same("went out", v.of(2), 0);
        Check.same("no rate in", v.wells(1, 100, 1000) > 0 ? v.rate(1, true) : -1, 0);
        v.pass(24);
        Check.same("field: 4 more of water", v.ofStore(0, 3), 9);
        Check.same("field: most gas of 991", v.ofStore(0, 0), 1982);
        Check.same("cavern: 4 less", v.ofStore(1, 2), 491);
        Check.same("cavern: gas", v.ofStore(1, 0), 982);
    }

    private static void atMultiplesOf24Alone() {
        Gasvault v = new Gasvault();
        v.store(Gasvault.FIELD, 100000, 0, 0, 1000, 1000);
        long[] due = {0, 500, 997, 1492, 1984};
        for (int hour = 1; hour < 110; hour++) {
            v.pass(1);
            Check.same("water in hour " + hour, v.ofStore(0, 3), due[hour / 24]);
        }
        Gasvault at = new Gasvault();
        at.pass(25);
        at.store(Gasvault.FIELD, 100000, 0, 0, 1000, 1000);
        at.pass(22);
        Check.same("not a day after it was taken up", at.ofStore(0, 3), 0);
        at.pass(1);
        Check.same("but at hour 48", at.ofStore(0, 3), 500);
        Gasvault many = new Gasvault();
        many.store(Gasvault.FIELD, 100000, 0, 0, 1000, 1000);
        many.pass(109);
        Check.same("many at once", many.ofStore(0, 3), 1984);
    }
}
