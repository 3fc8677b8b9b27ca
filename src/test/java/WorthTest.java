/** Promises 20 and 21: worth and worthAnew. */
public final class WorthTest {
    interface Worth {
        long of(Gasvault v, int customer, int hours);
    }

    public static void main(String[] args) {
        Worth[] both = {Gasvault::worth, Gasvault::worthAnew};
        for (Worth worth : both) {
            oneHour(worth);
            buysAndSells(worth);
            withRatchets(worth);
            withinVolumeAndInventory(worth);
            asMuchAsAllowedOrNothing(worth);
            hoursFromNowOn(worth);
            nothingElseMatters(worth);
            greatSums(worth);
            bounds(worth);
        }
        Check.end();
    }

    /** At hour 5: a volume of 300, rates of 70 and 30, an inventory, and prices from now on. */
    private static Gasvault scene(int inventory, int... prices) {
        Gasvault v = Scenes.holding(300, 70, 30, inventory);
        for (int i = 0; i < prices.length; i++) {
            v.price(5 + i, prices[i]);
        }
        return v;
    }

    private static void due(Worth worth, String what, Gasvault v, int hours, long due) {
        Check.same(what + ", " + hours + " hours", worth.of(v, 1, hours), due);
    }

    private static void oneHour(Worth worth) {
        due(worth, "takes", scene(100, 7), 1, 210);
        due(worth, "does nothing", scene(0, 7), 1, 0);
        due(worth, "does nothing for no price", scene(100, 0), 1, 0);
        due(worth, "brings for a price below 0", scene(100, -7), 1, 490);
        due(worth, "prices never told", scene(100), 8, 0);
    }

    private static void buysAndSells(Worth worth) {
        due(worth, "brings 70 and takes 15, 15, of less than 100", scene(0, 1, 10, 10), 3, 230);
        due(worth, "not within two hours", scene(0, 10, 11), 2, 0);
        due(worth, "waits for the price", scene(100, 3, 9, 7), 3, 30 * 9 + 15 * 7);
        due(worth, "all prices fall", scene(0, 90, 80, 70, 60, 50, 40, 30, 20), 8, 0);
        due(worth, "sells at 9, or buys at -1 too", scene(100, 9, -1, 9), 3, 30 * 9 + 70 + 30 * 9);
    }

    /** Half of 70 above two thirds of 300, half of 30 below a third of it, as it is in each hour. */
    private static void withRatchets(Worth worth) {
        due(worth, "200 brings 70, then 30", scene(200, -1, -1), 2, 100);
        due(worth, "201 brings 35, then 35, then 29", scene(201, -1, -1, -1), 3, 99);
        due(worth, "100 takes 30, then 15 and 15", scene(100, 1, 1, 1), 3, 60);
        due(worth, "99 takes 15s", scene(99, 1, 1, 1), 3, 45);
        due(worth, "130 takes 30 twice", scene(130, 1, 1, 1), 3, 75);
        due(worth, "95 buys at 2 to take 30s at 5", scene(95, 2, 5, 5, 5, 5), 5, 5 * 30 * 3 + 5 * 15 - 140);
    }

    private static void withinVolumeAndInventory(Worth worth) {
        due(worth, "299 brings 1", scene(299, -9, -9), 2, 9);
        due(worth, "299 brings 1", scene(299, -9), 1, 9);
        due(worth, "1 takes 1", scene(1, 9), 1, 9);
        due(worth, "300 brings none", scene(300, -9, -9), 2, 0);
        due(worth, "10 takes 10", scene(10, 9, 9), 2, 90);
        due(worth, "20 takes 15 and 5", scene(20, 9, 9, 9), 3, 180);
    }

    /** A half of what it may bring would fit better, but it is as much as it may or nothing. */
    private static void asMuchAsAllowedOrNothing(Worth worth) {
        due(worth, "70 at 5 for 15 and 15 at 9 does not pay", scene(0, 5, 9, 9), 3, 0);
        due(worth, "70 at 5 for 15s at 9, four and five", scene(0, 5, 9, 9, 9, 9, 9), 6, 70 * 9 - 350);
        due(worth, "taking less for more later", scene(30, 8, 10, 9), 3, 15 * 10 + 15 * 9);
    }

    private static void hoursFromNowOn(Worth worth) {
        Gasvault v = scene(100, 1, 2, 3, 4, 5, 6, 7, 8, 1000);
        due(worth, "rising prices", v, 1, 30);
        due(worth, "rising prices", v, 2, 30 + 15 * 2);
        due(worth, "rising prices", v, 3, 30 * 2 + 15 * 3);
        due(worth, "the ninth is out of reach", scene(100, 0, 0, 0, 0, 0, 0, 0, 0, 1000), 8, 0);
        due(worth, "the eighth is in reach", scene(100, 0, 0, 0, 0, 0, 0, 0, 1000), 8, 30000);
        due(worth, "the eighth, but 7 hours", scene(100, 0, 0, 0, 0, 0, 0, 0, 1000), 7, 0);
        Gasvault later = scene(100, 1000, 1, 2);
        later.pass(1);
        due(worth, "when an hour has gone by", later, 1, 30);
        due(worth, "when an hour has gone by", later, 2, 60);
        due(worth, "when an hour has gone by", later, 8, 60);
        later.pass(70);
        due(worth, "when all of them have", later, 8, 0);
    }

    private static void nothingElseMatters(Worth worth) {
        Gasvault v = scene(100, 7, -3);
        v.law(5, 10000, 10000000);
        v.wells(0, 0, 0);
        v.leak(0, 1000);
        due(worth, "neither laws nor stores", v, 2, 420);
        v.nominate(1, 7, -30);
        v.nominate(0, 7, 1000);
        due(worth, "nor nominations", v, 2, 420);
        Check.same("of the other one", worth.of(v, 0, 2), 300000);
        Gasvault w = new Gasvault();
        w.customer(100, 10, 20, 3);
        w.price(0, -2);
        Check.same("without stores", worth.of(w, 0, 1), 20);
    }

    private static void greatSums(Worth worth) {
        Gasvault v = new Gasvault();
        v.customer(1000000, 100000, 100000, 0);
        for (int i = 0; i < 8; i++) {
            v.price(i, i < 4 ? -1000 : 1000);
        }
        Check.same("brings 400000, and takes 100000 and three halves", worth.of(v, 0, 8), 400000000L + 250000000L);
    }

    private static void bounds(Worth worth) {
        Check.taken("1 hour", Scenes::busy, v -> worth.of(v, 4, 1));
        Check.taken("8 hours", Scenes::busy, v -> worth.of(v, 4, 8));
        Check.taken("the sixth", Scenes::full, v -> worth.of(v, 5, 8));
        int[] wrongHours = {0, 9, -1, Integer.MAX_VALUE, Integer.MIN_VALUE};
        for (int hours : wrongHours) {
            Check.refused(hours + " hours", Check.ARGUMENT, Scenes::busy, v -> worth.of(v, 0, hours));
            Check.refused("customer 5, " + hours + " hours", Check.INDEX, Scenes::busy,
                    v -> worth.of(v, 5, hours));
        }
        int[] wrongCustomers = {-1, 5, 6, Integer.MAX_VALUE, Integer.MIN_VALUE};
        for (int c : wrongCustomers) {
            Check.refused("customer " + c, Check.INDEX, Scenes::busy, v -> worth.of(v, c, 1));
        }
    }
}
