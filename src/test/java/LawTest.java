/** Promise 10: law, and step 2 of an hour. */
public final class LawTest {
    public static void main(String[] args) {
        counts();
        toldLastCounts();
        keepsGasIn();
        atLeastNothing();
        asInventoriesAreNow();
        curtailsByRankAndNumber();
        bounds();
        onlyTwenty();
        Check.end();
    }

    private static void counts() {
        Gasvault v = new Gasvault();
        for (int i = 1; i <= 20; i++) {
            Check.same("how many then", v.law(0, 0, i), i);
        }
        Check.same("the last one counts", v.of(7), 20);
    }

    private static void toldLastCounts() {
        Gasvault v = new Gasvault();
        v.law(2, 9, 300);
        v.law(4, 6, 100);
        v.law(5, 5, 900);
        v.law(9, 9, 0);
        v.law(11, 11, 7);
        long[] due = {0, 0, 300, 300, 100, 900, 100, 300, 300, 0, 0, 7, 0};
        for (int hour = 0; hour < due.length; hour++) {
            Check.same("the law of hour " + hour, v.of(7), due[hour]);
            v.pass(1);
        }
    }

    /** Customers with 300, 200, 100 of 1000 each, ranks 0, 2, 1; they take 100, 80, 40 in the hour 7; a law from 7. */
    private static Gasvault takers(int from, int to, int least) {
        Gasvault v = Scenes.wide();
        int[] ranks = {0, 2, 1};
        int[] takes = {100, 80, 40};
        for (int i = 0; i < 3; i++) {
            v.customer(1000, 1000, 1000, ranks[i]);
            v.nominate(i, 2, 300 - 100 * i);
            v.nominate(i, 7, -takes[i]);
        }
        v.law(from, to, least);
        v.pass(7);
        return v;
    }

    private static void flows(String what, Gasvault v, int... due) {
        for (int i = 0; i < due.length; i++) {
            Check.same(what + ", flow of " + i, v.flow(i), due[i]);
        }
    }

    private static void causes(String what, Gasvault v, int... due) {
        for (int i = 0; i < due.length; i++) {
            Check.same(what + ", why of " + i, v.why(i), due[i]);
        }
    }

    private static void keepsGasIn() {
        flows("380 stay just so", takers(7, 7, 380), -100, -80, -40);
        causes("380 stay just so", takers(7, 7, 380), 0, 0, 0);
        flows("381 would not", takers(7, 7, 381), -100, -79, -40);
        causes("381 would not", takers(7, 7, 381), 0, 2, 0);
        flows("from the hour on", takers(7, 9, 381), -100, -79, -40);
        flows("to the hour", takers(3, 7, 381), -100, -79, -40);
        flows("ended the hour before", takers(3, 6, 381), -100, -80, -40);
        flows("begins the hour after", takers(8, 9, 381), -100, -80, -40);
        Gasvault v = takers(7, 7, 381);
        v.pass(1);
        Check.same("taken", v.ofCustomer(1, 4), 79);
        Check.same("curtailed", v.ofCustomer(1, 5), 1);
        Check.same("inventory", v.ofCustomer(1, 0), 121);
        Check.same("all inventories", v.of(5), 381);
        Check.same("curtailed of others", v.ofCustomer(0, 5) + v.ofCustomer(2, 5), 0);
    }

    private static void atLeastNothing() {
        flows("just all", takers(7, 7, 600), 0, 0, 0);
        causes("just all", takers(7, 7, 600), 2, 2, 2);
        flows("more than there is", takers(7, 7, 601), 0, 0, 0);
        flows("much more than there is", takers(7, 7, 10000000), 0, 0, 0);
        Gasvault v = takers(7, 7, 10000000);
        v.pass(1);
        Check.same("curtailed", v.ofCustomer(0, 5), 100);
        Check.same("curtailed", v.ofCustomer(1, 5), 80);
        Check.same("curtailed", v.ofCustomer(2, 5), 40);
        Check.same("nothing went out", v.of(2), 0);
    }

    /** What is brought in the same hour lets no more be taken, and is not curtailed by the law. */
    private static void asInventoriesAreNow() {
        Gasvault v = Scenes.wide();
        v.customer(1000, 1000, 1000, 3);
        v.customer(1000, 1000, 1000, 0);
        v.nominate(1, 2, 400);
        v.nominate(0, 7, 200);
        v.nominate(1, 7, -150);
        v.law(0, 20, 300);
        v.pass(7);
        flows("100 above the law", v, 200, -100);
        causes("100 above the law", v, 0, 2);
        v.pass(1);
        Check.same("came", v.of(1), 500500);
        Check.same("inventories", v.of(5), 500);
    }

    /** The greatest rank first, of one rank the highest number. */
    private static void curtailsByRankAndNumber() {
        int[] ranks = {3, 1, 3, 0, 1, 2};
        int[] order = {2, 0, 5, 4, 1, 3};
        for (int short1 = 0; short1 <= 60; short1++) {
            Gasvault v = Scenes.wide();
            for (int i = 0; i < 6; i++) {
                v.customer(20, 20, 20, ranks[i]);
                v.nominate(i, 2, 10);
                v.nominate(i, 5, -10);
            }
            v.law(5, 5, short1);
            v.pass(5);
            int left = short1;
            for (int i : order) {
                int cut = Math.min(10, left);
                left -= cut;
                Check.same("keeps " + short1 + ", flow of " + i, v.flow(i), cut - 10);
                Check.same("keeps " + short1 + ", why of " + i, v.why(i), cut > 0 ? 2 : 0);
            }
        }
    }

    private static void bounds() {
        Check.taken("from now", Scenes::busy, v -> v.law(30, 30, 5));
        Check.refused("from the hour before", Check.ARGUMENT, Scenes::busy, v -> v.law(29, 40, 5));
        Check.refused("from -1", Check.ARGUMENT, Gasvault::new, v -> v.law(-1, 40, 5));
        Check.taken("for the last hour", Scenes::busy, v -> v.law(10000, 10000, 5));
        Check.refused("to 10001", Check.ARGUMENT, Scenes::busy, v -> v.law(30, 10001, 5));
        Check.refused("from 10001", Check.ARGUMENT, Scenes::busy, v -> v.law(10001, 10001, 5));
        Check.refused("to before from", Check.ARGUMENT, Scenes::busy, v -> v.law(40, 39, 5));
        Check.taken("least 0", Scenes::busy, v -> v.law(30, 10000, 0));
        Check.taken("least 10000000", Scenes::busy, v -> v.law(30, 10000, 10000000));
        Check.refused("least -1", Check.ARGUMENT, Scenes::busy, v -> v.law(30, 40, -1));
        Check.refused("least 10000001", Check.ARGUMENT, Scenes::busy, v -> v.law(30, 40, 10000001));
        Check.refused("greatest ints", Check.ARGUMENT, Scenes::busy,
                v -> v.law(30, Integer.MAX_VALUE, Integer.MAX_VALUE));
        Check.refused("least ints", Check.ARGUMENT, Scenes::busy,
                v -> v.law(Integer.MIN_VALUE, 40, Integer.MIN_VALUE));
    }

    private static void onlyTwenty() {
        Check.same("the twentieth", Scenes.busy().law(30, 40, 5), 20);
        Check.refused("one more", Check.STATE, Scenes::full, v -> v.law(30, 40, 5));
        Check.refused("one more, from before", Check.ARGUMENT, Scenes::full, v -> v.law(29, 40, 5));
        Gasvault v = new Gasvault();
        for (int i = 0; i < 20; i++) {
            v.law(0, 0, 1);
        }
        v.pass(100);
        Check.same("laws gone by are there still", Check.answer(v, x -> x.law(100, 100, 1)), Check.STATE.getName());
    }
}
