/** Promise 5: leach. */
public final class LeachTest {
    public static void main(String[] args) {
        growsTheVolume();
        onlyWithoutGas();
        bounds();
        Check.end();
    }

    /** An empty cavern of 10, one of 99990, one with a unit of gas, an empty field, an empty layer. */
    private static Gasvault scene() {
        Gasvault v = new Gasvault();
        v.store(Gasvault.CAVERN, 10, 0, 0, 500, 0);
        v.store(Gasvault.CAVERN, 99990, 0, 0, 500, 0);
        v.store(Gasvault.CAVERN, 10, 1, 0, 500, 0);
        v.store(Gasvault.FIELD, 10, 0, 0, 500, 0);
        v.store(Gasvault.LAYER, 10, 0, 0, 500, 0);
        return v;
    }

    private static void growsTheVolume() {
        Gasvault v = scene();
        Check.same("volume then", v.leach(0, 25), 35);
        Check.same("asked", v.ofStore(0, 2), 35);
        Check.same("room too", v.ofStore(0, 1), 35);
        Check.same("most gas too", v.ofStore(0, 6), 175);
        Check.same("once more", v.leach(0, 1), 36);
        Check.same("the other one", v.ofStore(1, 2), 99990);
        Check.same("to the greatest volume", v.leach(1, 10), 100000);
        Check.same("to the greatest volume at once", v.leach(0, 99964), 100000);
    }

    private static void onlyWithoutGas() {
        Gasvault v = scene();
        v.leak(2, 1);
        v.pass(1);
        Check.same("when the gas is lost", v.leach(2, 5), 15);
    }

    private static void bounds() {
        Check.refused("more 0", Check.ARGUMENT, LeachTest::scene, v -> v.leach(0, 0));
        Check.refused("more -1", Check.ARGUMENT, LeachTest::scene, v -> v.leach(0, -1));
        Check.refused("more 100001", Check.ARGUMENT, LeachTest::scene, v -> v.leach(0, 100001));
        Check.refused("more greatest int", Check.ARGUMENT, LeachTest::scene, v -> v.leach(0, Integer.MAX_VALUE));
        Check.refused("more 0 of a field", Check.ARGUMENT, LeachTest::scene, v -> v.leach(3, 0));
        Check.refused("more 100001 with gas", Check.ARGUMENT, LeachTest::scene, v -> v.leach(2, 100001));
        Check.refused("above 100000 by 1", Check.STATE, LeachTest::scene, v -> v.leach(1, 11));
        Check.refused("above 100000 by much", Check.STATE, LeachTest::scene, v -> v.leach(1, 100000));
        Check.refused("100000 more", Check.STATE, LeachTest::scene, v -> v.leach(0, 100000));
        Check.refused("has gas", Check.STATE, LeachTest::scene, v -> v.leach(2, 5));
        Check.refused("a field", Check.STATE, LeachTest::scene, v -> v.leach(3, 5));
        Check.refused("a layer", Check.STATE, LeachTest::scene, v -> v.leach(4, 5));
        Check.refused("store -1", Check.INDEX, LeachTest::scene, v -> v.leach(-1, 5));
        Check.refused("store 5", Check.INDEX, LeachTest::scene, v -> v.leach(5, 5));
        Check.refused("store 5 and more 0", Check.INDEX, LeachTest::scene, v -> v.leach(5, 0));
    }
}
