/** Promise 22: of. */
public final class OfTest {
    public static void main(String[] args) {
        ofAllGas();
        nobodysBelowNothing();
        theLawOfThisHour();
        longSums();
        bounds();
        Check.end();
    }

    private static void all(String what, Gasvault v, long... due) {
        for (int i = 0; i < due.length; i++) {
            Check.same(what + ", of(" + i + ")", v.of(i), due[i]);
        }
    }

    private static void ofAllGas() {
        Gasvault v = new Gasvault();
        all("new", v, 0, 0, 0, 0, 0, 0, 0, 0);
        v.store(Gasvault.LAYER, 1000, 300, 0, 1000, 10000);
        v.store(Gasvault.CAVERN, 1000, 200, 0, 1000, 0);
        v.wells(0, 100, 100);
        v.wells(1, 100, 100);
        all("two stores", v, 0, 500, 0, 0, 500, 0, 500, 0);
        v.customer(1000, 100, 100, 0);
        v.customer(1000, 100, 100, 0);
        v.nominate(0, 2, 80);
        v.nominate(1, 2, 90);
        v.nominate(0, 5, -30);
        v.pass(3);
        all("170 came", v, 3, 670, 0, 0, 670, 170, 500, 0);
        v.leak(0, 4);
        v.pass(3);
        all("30 went out, 12 were lost", v, 6, 670, 30, 12, 628, 140, 488, 0);
        v.transfer(1, 0, 33);
        all("a transfer", v, 6, 670, 30, 12, 628, 140, 488, 0);
        v.store(Gasvault.FIELD, 10, 7, 0, 1000, 0);
        all("one more store", v, 6, 677, 30, 12, 635, 140, 495, 0);
    }

    private static void nobodysBelowNothing() {
        Gasvault v = new Gasvault();
        v.store(Gasvault.LAYER, 1000, 0, 0, 1000, 10000);
        v.wells(0, 100, 100);
        v.customer(1000, 100, 100, 0);
        v.nominate(0, 2, 50);
        v.pass(3);
        Check.same("all is somebody's", v.of(6), 0);
        v.leak(0, 20);
        v.pass(1);
        Check.same("20 too little", v.of(6), -20);
        v.pass(5);
        Check.same("nothing is left", v.of(4), 0);
        Check.same("but told to be", v.of(5), 50);
        Check.same("50 too little", v.of(6), -50);
    }

    private static void theLawOfThisHour() {
        Gasvault v = new Gasvault();
        v.law(1, 2, 5);
        v.law(2, 2, 0);
        v.law(3, 3, 10000000);
        long[] due = {0, 5, 0, 10000000, 0};
        for (int hour = 0; hour < due.length; hour++) {
            Check.same("hour " + hour, v.of(7), due[hour]);
            v.pass(1);
        }
    }

    /** 100000 in and 100000 out for hours, so that what came is more than an int holds. */
    private static void longSums() {
        Gasvault v = new Gasvault();
        long came = 0;
        for (int i = 0; i < 5; i++) {
            v.store(Gasvault.LAYER, 100000, 0, 0, 1000, 0);
            v.wells(i, 100, 1000);
        }
        for (int i = 0; i < 6; i++) {
            v.customer(1000000, 100000, 100000, 0);
        }
        for (int hour = 2; hour < 8; hour++) {
            for (int i = 0; i < 6; i++) {
                v.nominate(i, hour, 100000);
            }
        }
        v.pass(8);
        came = 6 * 600000L;
        Check.same("came", v.of(1), came);
        Check.same("all above a mark of 0 is lost", v.of(3), came);
        Check.same("inventories", v.of(5), 3600000);
        Check.same("nobody's", v.of(6), -3600000);
    }

    private static void bounds() {
        int[] wrongWhats = {-1, 8, 9, Integer.MAX_VALUE, Integer.MIN_VALUE};
        for (int what : wrongWhats) {
            Check.refused("of(" + what + ")", Check.ARGUMENT, Scenes::busy, v -> v.of(what));
        }
    }
}
