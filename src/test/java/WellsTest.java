/** Promise 3: wells. */
public final class WellsTest {
    public static void main(String[] args) {
        ratesFollowTheWells();
        toldAnew();
        bounds();
        Check.end();
    }

    /** Pressure 400 of 100 to 900: 300 above the least, 500 below the greatest one. */
    private static Gasvault scene() {
        Gasvault v = new Gasvault();
        v.store(0, 1000, 4000, 100, 900, 0);
        v.store(1, 1000, 4000, 100, 900, 0);
        return v;
    }

    private static void ratesFollowTheWells() {
        Gasvault v = scene();
        Check.same("rate out then", v.wells(0, 7, 11), 231);
        Check.same("asked", v.rate(0, false), 231);
        Check.same("rate in", v.rate(0, true), 385);
        Check.same("the other store", v.rate(1, false), 0);
        Check.same("rounded down", v.wells(1, 1, 1), 3);
        Check.same("37 * 300 / 100", v.wells(1, 1, 37), 111);
        Check.same("at most what is above the least gas", v.wells(1, 100, 1000), 3000);
        Check.same("at most what is below the most gas", v.rate(1, true), 5000);
    }

    private static void toldAnew() {
        Gasvault v = scene();
        v.wells(0, 7, 11);
        Check.same("told anew", v.wells(0, 2, 50), 300);
        Check.same("no wells", v.wells(0, 0, 50), 0);
        Check.same("no strength", v.wells(0, 50, 0), 0);
        Check.same("no rate in", v.rate(0, true), 0);
    }

    private static void bounds() {
        Check.taken("most wells", Scenes::busy, v -> v.wells(3, 100, 1));
        Check.taken("greatest strength", Scenes::busy, v -> v.wells(0, 1, 1000));
        Check.taken("none", Scenes::busy, v -> v.wells(0, 0, 0));
        wrong("many -1", v -> v.wells(0, -1, 5));
        wrong("many 101", v -> v.wells(0, 101, 5));
        wrong("strength -1", v -> v.wells(0, 5, -1));
        wrong("strength 1001", v -> v.wells(0, 5, 1001));
        wrong("many greatest int", v -> v.wells(0, Integer.MAX_VALUE, 5));
        wrong("strength least int", v -> v.wells(0, 5, Integer.MIN_VALUE));
        noStore("store -1", v -> v.wells(-1, 5, 5));
        noStore("store 4", v -> v.wells(4, 5, 5));
        noStore("store 4 and wrong arguments", v -> v.wells(4, 101, 1001));
        noStore("store greatest int", v -> v.wells(Integer.MAX_VALUE, -1, 5));
        noStore("store least int", v -> v.wells(Integer.MIN_VALUE, 5, 5));
        Check.refused("store 5 of five", Check.INDEX, Scenes::full, v -> v.wells(5, 1, 1));
        Check.taken("store 4 of five", Scenes::full, v -> v.wells(4, 1, 1));
    }

    private static void wrong(String what, Check.Call call) {
        Check.refused(what, Check.ARGUMENT, Scenes::busy, call);
    }

    private static void noStore(String what, Check.Call call) {
        Check.refused(what, Check.INDEX, Scenes::busy, call);
    }
}
