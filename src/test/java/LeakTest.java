/** Promise 4: leak, and what is lost by step 5. */
public final class LeakTest {
    public static void main(String[] args) {
        answersTheOneBefore();
        isLostEachHour();
        belowTheLeastGasToo();
        ofEachStore();
        bounds();
        Check.end();
    }

    private static void answersTheOneBefore() {
        Gasvault v = Scenes.wide();
        v.store(0, 100, 50, 0, 100, 0);
        Check.same("0 at first", v.leak(0, 12), 0);
        Check.same("the other one too", v.leak(1, 5), 0);
        Check.same("told before", v.leak(0, 0), 12);
        Check.same("told before", v.leak(0, 1), 0);
        Check.same("told before, of the other one", v.leak(1, 1), 5);
    }

    private static void isLostEachHour() {
        Gasvault v = Scenes.wide();
        v.leak(0, 12);
        Check.same("not yet", v.ofStore(0, 0), 500000);
        v.pass(1);
        Check.same("an hour's", v.ofStore(0, 0), 499988);
        v.pass(3);
        Check.same("four hours'", v.ofStore(0, 0), 499952);
        Check.same("lost", v.of(3), 48);
        v.leak(0, 0);
        v.pass(2);
        Check.same("no more", v.of(3), 48);
        v.leak(0, 1000);
        v.pass(1);
        Check.same("the greatest leak", v.of(3), 1048);
        Check.same("came", v.of(1), 500000);
        Check.same("went out", v.of(2), 0);
    }

    private static void belowTheLeastGasToo() {
        Gasvault v = new Gasvault();
        v.store(0, 100, 60, 50, 100, 0);
        v.leak(0, 25);
        v.pass(2);
        Check.same("below the least gas", v.ofStore(0, 0), 10);
        Check.same("no rate out there", v.wells(0, 100, 1000), 0);
        v.pass(1);
        Check.same("as far as there is gas", v.ofStore(0, 0), 0);
        Check.same("no heat is left", v.ofStore(0, 4), 0);
        v.pass(5);
        Check.same("no more than there was", v.of(3), 60);
    }

    private static void ofEachStore() {
        Gasvault v = new Gasvault();
        for (int i = 0; i < 5; i++) {
            v.store(i % 3, 100, 90, 0, 100, i % 3 == 2 ? 1000 : 90);
            v.leak(i, i + 1);
        }
        v.pass(2);
        for (int i = 0; i < 5; i++) {
            Check.same("of store " + i, v.ofStore(i, 0), 90 - 2 * (i + 1));
        }
        Check.same("together", v.of(3), 30);
    }

    private static void bounds() {
        Check.taken("greatest leak", Scenes::busy, v -> v.leak(3, 1000));
        Check.taken("least leak", Scenes::busy, v -> v.leak(0, 0));
        Check.refused("units -1", Check.ARGUMENT, Scenes::busy, v -> v.leak(0, -1));
        Check.refused("units 1001", Check.ARGUMENT, Scenes::busy, v -> v.leak(0, 1001));
        Check.refused("units greatest int", Check.ARGUMENT, Scenes::busy, v -> v.leak(0, Integer.MAX_VALUE));
        Check.refused("units least int", Check.ARGUMENT, Scenes::busy, v -> v.leak(0, Integer.MIN_VALUE));
        Check.refused("store -1", Check.INDEX, Scenes::busy, v -> v.leak(-1, 5));
        Check.refused("store 4", Check.INDEX, Scenes::busy, v -> v.leak(4, 5));
        Check.refused("store 4 and units 1001", Check.INDEX, Scenes::busy, v -> v.leak(4, 1001));
        Check.refused("store -1 and units -1", Check.INDEX, Scenes::busy, v -> v.leak(-1, -1));
    }
}
