/** Sentence by sentence, the edges that the document names for what a contract is worth; promises 20 and 21. */
public final class EdgesOfWorthTest {
    public static void main(String[] args) throws ReflectiveOperationException {
        Sentences.test(EdgesOfWorthTest.class);
    }

    /** At hour 5: customer 1 with a volume, rates of 70 in and 30 out, an inventory, and prices from now on. */
    private static Gasvault scene(int volume, int inventory, int... prices) {
        Gasvault v = Scenes.holding(volume, 70, 30, inventory);
        for (int i = 0; i < prices.length; i++) {
            v.price(5 + i, prices[i]);
        }
        return v;
    }

    private static void due(String what, Gasvault v, int hours, long due) {
        Check.same(what + ", worth of " + hours, v.worth(1, hours), due);
        Check.same(what + ", worth anew of " + hours, v.worthAnew(1, hours), due);
    }

    @Says({"The worth of a contract for some hours from now on is the greatest sum that can come by doing one of three"
            + " things in each of these hours, in their order:", "nothing;"})
    private static void nothingIsAlwaysOneOfThem() {
        due("prices that only cost", scene(300, 0, 9, 8, 7, 6, 5, 4, 3, 2), 8, 0);
        due("no prices", scene(300, 150), 8, 0);
        due("brings, or nothing, or takes", scene(300, 100, -1), 1, 70);
        due("brings for nothing to take", scene(300, 0, 0, 1, 1, 1, 1, 1), 6, 70);
        due("1 cent more to take than to bring", scene(3000, 0, 5, 6), 2, 0);
        due("does nothing in between", scene(300, 30, 3, 1, 3, 1), 4, 15 * 3 + 15 * 3);
    }

    @Says("to bring as much as its rate in and its volume allow, which costs that times the price of the hour;")
    private static void bringsUpToRateAndVolume() {
        due("just the rate", scene(300, 200, -1), 1, 70);
        due("just above two thirds, half the rate", scene(300, 201, -1), 1, 35);
        due("just half the rate fits", scene(300, 265, -1), 1, 35);
        due("one less fits", scene(300, 266, -1), 1, 34);
        due("1 fits", scene(300, 299, -1), 1, 1);
        due("none fits", scene(300, 300, -1), 1, 0);
        due("a volume of 1", scene(1, 0, -1000), 8, 1000);
        due("200, then 270", scene(300, 200, -1, -1, -1), 3, 70 + 30);
        due("130, then 200, then 270", scene(300, 130, -1, -1, -1), 3, 70 + 70 + 30);
        due("131, then 201, then 236", scene(300, 131, -1, -1, -1), 3, 70 + 35 + 35);
    }

    @Says("or to take as much as its rate out and its inventory allow, which brings that times the price.")
    private static void takesUpToRateAndInventory() {
        due("just the rate", scene(300, 100, 1), 1, 30);
        due("just below a third, half the rate", scene(300, 99, 1), 1, 15);
        due("just half the rate is there", scene(300, 15, 1), 1, 15);
        due("one less is there", scene(300, 14, 1), 1, 14);
        due("1 is there", scene(300, 1, 1), 1, 1);
        due("none is there", scene(300, 0, 1000), 1, 0);
        due("none is there, ever", scene(300, 0, 1000, 1000, 1000), 3, 0);
        due("130, then 100, then 70", scene(300, 130, 1, 1, 1), 3, 30 + 30 + 15);
        due("129, then 99, then 84", scene(300, 129, 1, 1, 1), 3, 30 + 15 + 15);
        due("20, then 5", scene(300, 20, 1, 1, 1), 3, 20);
    }

    @Says("Neither others nor laws nor stores matter.")
    private static void nothingElseMatters() {
        Gasvault v = scene(300, 100, 7, -3);
        due("at first", v, 2, 420);
        v.law(5, 10000, 10000000);
        due("with a law", v, 2, 420);
        v.wells(0, 0, 0);
        due("without wells", v, 2, 420);
        v.nominate(0, 7, 100000);
        v.nominate(1, 7, -30);
        due("with nominations", v, 2, 420);
        v.leak(0, 1000);
        v.store(Gasvault.CAVERN, 10, 0, 0, 0, 0);
        due("with other stores", v, 2, 420);
        Gasvault w = new Gasvault();
        w.customer(9, 5, 5, 0);
        w.customer(10, 10, 20, 3);
        w.price(0, -1000);
        due("without stores, that hour", w, 1, 10000);
        Gasvault turned = Scenes.wide();
        turned.customer(1000, 100, 100, 0);
        turned.customer(1000, 100, 100, 0);
        turned.nominate(1, 2, 100);
        turned.pass(3);
        turned.price(3, 5);
        due("though the plant cannot turn yet", turned, 1, 250);
    }

    /** Rates of 100000 for prices of 1000 and -1000: sums that are told as they are. */
    @Says(promise = 20, value = {"Returns the worth."})
    private static void greatSums() {
        Gasvault v = new Gasvault();
        v.customer(1, 0, 0, 0);
        v.customer(1000000, 100000, 100000, 0);
        for (int hour = 0; hour < 8; hour++) {
            v.price(hour, -1000);
        }
        due("brings 7 times, then halves", v, 8, (7 * 100000L + 50000) * 1000);
        for (int hour = 0; hour < 60; hour++) {
            v.price(hour, 1000);
        }
        due("has none to take", v, 8, 0);
        Gasvault w = Scenes.rich(1000000, 100000, 100000, 1000000);
        for (int hour = 6; hour < 14; hour++) {
            w.price(hour, 1000);
        }
        Check.same("takes 7 times, then a half", w.worth(5, 8), (7 * 100000L + 50000) * 1000);
        Check.same("takes 7 times, then a half, anew", w.worthAnew(5, 8), (7 * 100000L + 50000) * 1000);
        Gasvault none = new Gasvault();
        none.customer(1, 1, 1, 0);
        none.customer(1000, 0, 0, 0);
        none.price(0, -1000);
        due("rates of 0", none, 8, 0);
    }

    @Says(promise = {20, 21}, value = {"`customer`: the number of a customer",
            "Throws `IndexOutOfBoundsException` if there is no such customer"})
    private static void ofACustomer() {
        Check.onCustomers((v, customer) -> v.worth(customer, 2));
        Check.onCustomers((v, customer) -> v.worthAnew(customer, 2));
        for (int hours : new int[] {0, 9}) {
            Check.refused("customer 5 of five", Check.INDEX, Scenes::busy, v -> v.worth(5, hours));
            Check.refused("customer 5 of five, anew", Check.INDEX, Scenes::busy, v -> v.worthAnew(5, hours));
            Check.refused("customer 0 of none", Check.INDEX, Gasvault::new, v -> v.worth(0, hours));
            Check.refused("customer 0 of none, anew", Check.INDEX, Gasvault::new, v -> v.worthAnew(0, hours));
        }
    }

    @Says(promise = {20, 21}, value = {"`hours`: 1 to 8", "Throws `IllegalArgumentException` if hours is out of range"})
    private static void hoursOfWorth() {
        Check.range("hours", 1, 8, Scenes::busy, (v, hours) -> v.worth(4, hours));
        Check.range("hours, anew", 1, 8, Scenes::busy, (v, hours) -> v.worthAnew(4, hours));
        due("the first hour alone", scene(300, 100, 1, 1000), 1, 30);
        due("the second one too", scene(300, 100, 1, 1000), 2, 30000);
        due("the eighth", scene(300, 100, 0, 0, 0, 0, 0, 0, 0, 7, 1000), 8, 210);
        due("7 without the eighth", scene(300, 100, 0, 0, 0, 0, 0, 0, 0, 7, 1000), 7, 0);
        Gasvault later = scene(300, 100, 1000, 1);
        later.pass(1);
        due("an hour gone by does not count", later, 8, 30);
        Gasvault last = Scenes.late(0);
        last.price(9907, -1000);
        Check.same("in the last hour there is", last.worth(4, 8), last.worthAnew(4, 8));
        Check.same("more than without the eighth", last.worth(4, 8) > last.worth(4, 7) ? 1 : 0, 1);
    }

    /** Four prices in each of four hours, for each inventory. */
    @Says(promise = 21, value = "Returns the same, by going all ways, one after the other.")
    private static void bothTheSame() {
        for (int inventory = 0; inventory <= 9; inventory++) {
            for (int part = 0; part < 4; part++) {
                bothTheSame(inventory, part * 64);
            }
        }
    }

    private static void bothTheSame(int inventory, int from) {
        int[] prices = {-2, 0, 3, 5};
        Gasvault v = new Gasvault();
        v.store(Gasvault.LAYER, 1000, 0, 0, 1000, 1000000);
        v.wells(0, 100, 1000);
        v.customer(9, 9, 9, 0);
        v.customer(9, 4, 5, 0);
        v.nominate(0, 2, inventory);
        v.pass(3);
        if (inventory > 0) {
            v.transfer(0, 1, inventory);
        }
        Check.same("inventory", v.ofCustomer(1, 0), inventory);
        for (int way = from; way < from + 64; way++) {
            for (int i = 0; i < 4; i++) {
                v.price(3 + i, prices[way >> 2 * i & 3]);
            }
            Check.same("prices " + way + " with " + inventory, v.worth(1, 4), v.worthAnew(1, 4));
        }
    }
}
