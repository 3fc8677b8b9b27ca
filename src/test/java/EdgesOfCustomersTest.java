/** Sentence by sentence, the edges that the document names for customers: its terms, promises 7 to 9 and 17. */
public final class EdgesOfCustomersTest {
    public static void main(String[] args) throws ReflectiveOperationException {
        Sentences.test(EdgesOfCustomersTest.class);
    }

    // ---- terms

    @Says("Customers are numbered from 0, at most 6;")
    private static void numberedFromNothingToFive() {
        Gasvault v = new Gasvault();
        for (int i = 0; i < 6; i++) {
            Check.same("customer " + i, v.customer(10 + i, 20 + i, 30 + i, i % 4), i);
        }
        Check.same("a seventh", Check.answer(v, x -> x.customer(10, 20, 30, 0)), Check.STATE.getName());
        for (int i = 0; i < 6; i++) {
            Check.same("rate in of customer " + i, v.ofCustomer(i, 1), 20 + i);
        }
    }

    @Says("a customer has a volume, a rate in, a rate out, a rank, 0 to 3, and an inventory, 0 at first.")
    private static void noInventoryAtFirst() {
        Gasvault v = new Gasvault();
        v.customer(1, 0, 0, 0);
        v.customer(1000000, 100000, 100000, 3);
        for (int customer = 0; customer < 2; customer++) {
            Check.same("inventory", v.ofCustomer(customer, 0), 0);
            for (int what = 3; what <= 5; what++) {
                Check.same("what " + what, v.ofCustomer(customer, what), 0);
            }
        }
        Check.same("all inventories", v.of(5), 0);
    }

    /** The rates of a customer with rates of 71 and 31, asked and as they count in step 1. */
    private static void rates(int volume, int inventory, int in, int out) {
        String what = inventory + " of " + volume;
        Gasvault v = Scenes.rich(volume, 71, 31, inventory);
        Check.same(what + ", inventory", v.ofCustomer(5, 0), inventory);
        Check.same(what + ", rate in now", v.ofCustomer(5, 1), in);
        Check.same(what + ", rate out now", v.ofCustomer(5, 2), out);
        if (volume - inventory > 71 && inventory > 31) {
            v.nominate(5, 8, 1000000);
            v.pass(2);
            Check.same(what + ", brings", v.flow(5), in);
            Gasvault w = Scenes.rich(volume, 71, 31, inventory);
            w.nominate(5, 8, -1000000);
            w.pass(2);
            Check.same(what + ", takes", w.flow(5), -out);
        }
    }

    @Says("The rate in now is that, or half of it, if 3 times the inventory is above 2 times the volume;")
    private static void halfInAboveTwoThirds() {
        rates(300, 199, 71, 31);
        rates(300, 200, 71, 31);
        rates(300, 201, 35, 31);
        rates(301, 200, 71, 31);
        rates(301, 201, 35, 31);
        rates(302, 201, 71, 31);
        rates(302, 202, 35, 31);
        rates(1, 1, 35, 31);
        rates(2, 1, 71, 31);
        rates(2, 2, 35, 31);
        rates(1000000, 666666, 71, 31);
        rates(1000000, 666667, 35, 31);
        rates(1000000, 1000000, 35, 31);
    }

    @Says("the rate out now is that, or half of it, if 3 times the inventory is below the volume.")
    private static void halfOutBelowAThird() {
        rates(300, 99, 71, 15);
        rates(300, 100, 71, 31);
        rates(301, 100, 71, 15);
        rates(301, 101, 71, 31);
        rates(302, 100, 71, 15);
        rates(302, 101, 71, 31);
        rates(1, 0, 71, 15);
        rates(2, 0, 71, 15);
        rates(3, 1, 71, 31);
        rates(4, 1, 71, 15);
        rates(1000000, 0, 71, 15);
        rates(1000000, 333333, 71, 15);
        rates(1000000, 333334, 71, 31);
    }

    /** Halves of 0, 1 and 2. */
    @Says("or half of it,")
    private static void halvesRoundedDown() {
        int[][] halves = {{0, 0}, {1, 0}, {2, 1}, {3, 1}, {99999, 49999}, {100000, 50000}};
        for (int[] row : halves) {
            Check.same("half of " + row[0] + " in", Scenes.rich(3, row[0], 0, 3).ofCustomer(5, 1), row[1]);
            Check.same("all of " + row[0] + " in", Scenes.rich(3, row[0], 0, 2).ofCustomer(5, 1), row[0]);
            Check.same("half of " + row[0] + " out", Scenes.rich(3, 0, row[0], 0).ofCustomer(5, 2), row[1]);
            Check.same("all of " + row[0] + " out", Scenes.rich(3, 0, row[0], 1).ofCustomer(5, 2), row[0]);
        }
    }

    @Says({"A customer may nominate for an hour, anew as well:",
            "to bring some gas, or, below 0, to take it, 0 at first."})
    private static void nominatesAnew() {
        Gasvault v = Scenes.holding(1000, 100, 100, 500);
        v.pass(1);
        Check.same("0 at first", v.nominate(1, 8, 1), 0);
        Check.same("anew", v.nominate(1, 8, -1), 1);
        Check.same("anew once more", v.nominate(1, 8, 30), -1);
        Check.same("of another hour", v.nominate(1, 9, 0), 0);
        Check.same("of another customer", v.nominate(0, 8, 0), 0);
        v.pass(2);
        Check.same("what was told last, and no sum", v.flow(1), 30);
        Gasvault least = Scenes.holding(1000, 100, 100, 500);
        least.nominate(1, 7, 1);
        least.nominate(1, 10, -1);
        least.pass(3);
        Check.same("1 is to bring", least.ofCustomer(1, 3), 1);
        least.pass(3);
        Check.same("-1 is to take", least.ofCustomer(1, 4), 1);
        Gasvault none = Scenes.holding(1000, 100, 100, 500);
        none.nominate(1, 7, 5);
        none.nominate(1, 7, 0);
        none.pass(3);
        Check.same("0 is neither", none.ofCustomer(1, 3) + none.ofCustomer(1, 4), 0);
    }

    @Says("Customers may transfer gas to one another in the store.")
    private static void transfersStayInTheStore() {
        Gasvault v = Scenes.holding(1000, 100, 100, 500);
        long[] before = new long[5];
        for (int what = 0; what < 5; what++) {
            before[what] = v.of(what);
        }
        Check.same("to the one", v.transfer(1, 0, 500), 500);
        Check.same("and back", v.transfer(0, 1, 1), 1);
        for (int what = 0; what < 5; what++) {
            Check.same("of(" + what + ")", v.of(what), before[what]);
        }
        Check.same("all inventories", v.of(5), 500);
        Check.same("gas of the store", v.ofStore(0, 0), 500500);
        Check.same("brought", v.ofCustomer(1, 3), 0);
        Check.same("taken", v.ofCustomer(1, 4), 0);
    }

    // ---- promise 7

    @Says(promise = 7, value = "`volume`: 1 to 1000000")
    private static void volumes() {
        Check.range("volume", 1, 1000000, Scenes::busy, (v, volume) -> v.customer(volume, 5, 5, 1));
        Check.same("1 holds 1", Scenes.rich(1, 5, 5, 1).ofCustomer(5, 0), 1);
        Check.same("1 holds no 2", Check.answer(Scenes.rich(1, 5, 5, 1), v -> v.transfer(0, 5, 1)),
                Check.STATE.getName());
        Gasvault v = Scenes.rich(1000000, 5, 5, 999999);
        Check.same("1000000 holds 1000000", v.transfer(4, 5, 1), 1000000);
        v.nominate(5, 8, 5);
        v.pass(2);
        Check.same("and no more", v.flow(5), 0);
    }

    @Says(promise = 7, value = "`in`: 0 to 100000")
    private static void ratesIn() {
        Check.range("in", 0, 100000, Scenes::busy, (v, in) -> v.customer(10, in, 5, 1));
        for (int in : new int[] {0, 1, 99999, 100000}) {
            Gasvault v = Scenes.rich(1000000, in, 5, 0);
            v.nominate(5, 8, 1000000);
            v.pass(2);
            Check.same("brings", v.flow(5), in);
        }
    }

    @Says(promise = 7, value = "`out`: 0 to 100000")
    private static void ratesOut() {
        Check.range("out", 0, 100000, Scenes::busy, (v, out) -> v.customer(10, 5, out, 1));
        for (int out : new int[] {0, 1, 99999, 100000}) {
            Gasvault v = Scenes.rich(1000000, 5, out, 900000);
            v.nominate(5, 8, -1000000);
            v.pass(2);
            Check.same("takes", v.flow(5), -out);
        }
    }

    /** Of two who bring 10 each where 10 can flow, the greater rank is curtailed, though it has the lower number. */
    @Says(promise = 7, value = "`rank`: 0 to 3")
    private static void ranks() {
        Check.range("rank", 0, 3, Scenes::busy, (v, rank) -> v.customer(10, 5, 5, rank));
        for (int rank = 1; rank <= 3; rank++) {
            Gasvault v = new Gasvault();
            v.store(Gasvault.LAYER, 100, 0, 0, 10, 1000000);
            v.wells(0, 100, 1000);
            v.customer(100, 100, 100, rank);
            v.customer(100, 100, 100, rank - 1);
            v.nominate(0, 2, 10);
            v.nominate(1, 2, 10);
            v.pass(2);
            Check.same("rank " + rank, v.flow(0), 0);
            Check.same("rank " + (rank - 1), v.flow(1), 10);
        }
    }

    @Says(promise = 7, value = {"Throws `IllegalArgumentException` if an argument is out of range",
            "Throws `IllegalStateException` if there are 6"})
    private static void sixCustomers() {
        Check.same("the sixth", Scenes.busy().customer(10, 5, 5, 0), 5);
        Check.refused("a seventh", Check.STATE, Scenes::full, v -> v.customer(10, 5, 5, 0));
        Check.refused("a seventh, least of all", Check.STATE, Scenes::full, v -> v.customer(1, 0, 0, 0));
        Check.refused("a seventh, greatest of all", Check.STATE, Scenes::full,
                v -> v.customer(1000000, 100000, 100000, 3));
        Check.outside("a seventh, volume", 1, 1000000, Check.ARGUMENT, Scenes::full, (v, x) -> v.customer(x, 5, 5, 0));
        Check.outside("a seventh, in", 0, 100000, Check.ARGUMENT, Scenes::full, (v, x) -> v.customer(10, x, 5, 0));
        Check.outside("a seventh, out", 0, 100000, Check.ARGUMENT, Scenes::full, (v, x) -> v.customer(10, 5, x, 0));
        Check.outside("a seventh, rank", 0, 3, Check.ARGUMENT, Scenes::full, (v, x) -> v.customer(10, 5, 5, x));
    }

    // ---- promise 8

    @Says(promise = 8, value = {"`customer`: the number of a customer",
            "Throws `IndexOutOfBoundsException` if there is no such customer"})
    private static void nominationsOfACustomer() {
        Check.onCustomers((v, customer) -> v.nominate(customer, (int) v.of(0) + 2, 5));
        Check.refused("customer 5 of five, in an hour", Check.INDEX, Scenes::busy, v -> v.nominate(5, 31, 5));
        Check.refused("customer 5 of five, in 61 hours", Check.INDEX, Scenes::busy, v -> v.nominate(5, 91, 5));
        Check.refused("customer -1, units 1000001", Check.INDEX, Scenes::busy, v -> v.nominate(-1, 40, 1000001));
        Check.refused("customer 6 of six, all wrong", Check.INDEX, Scenes::full, v -> v.nominate(6, 0, -1000001));
        Check.refused("customer 0 of none, all wrong", Check.INDEX, Gasvault::new, v -> v.nominate(0, 1, 1000001));
    }

    @Says(promise = 8, value = {"`hour`: now and 2 to now and 60",
            "Throws `IllegalArgumentException` if hour or units is out of range"})
    private static void hoursToNominate() {
        Check.range("at 30, hour", 32, 90, Scenes::busy, (v, hour) -> v.nominate(3, hour, 5));
        Check.range("at 9900, hour", 9902, 9960, () -> Scenes.late(0), (v, hour) -> v.nominate(3, hour, 5));
        Check.range("at 0, hour", 2, 60, EdgesOfCustomersTest::atTheBeginning, (v, hour) -> v.nominate(0, hour, 5));
        for (int hour : new int[] {0, 1, 28, 29, 30, 31, 91, 92, 93, 94, 95, 96}) {
            Check.refused("at 30, hour " + hour, Check.ARGUMENT, Scenes::busy, v -> v.nominate(3, hour, 5));
        }
    }

    private static Gasvault atTheBeginning() {
        Gasvault v = Scenes.wide();
        v.customer(100000, 100, 100, 0);
        return v;
    }

    /** From many hours on, for longer than 60: the farthest hour is its own, and no other one's. */
    @Says(promise = 8, value = {"Nominates.", "Returns what was nominated for that hour before."})
    private static void eachHourItsOwn() {
        eachHourFrom(0);
        eachHourFrom(5);
        eachHourFrom(67);
        eachHourFrom(130);
        eachHourFrom(240);
    }

    private static void eachHourFrom(int first) {
        Gasvault v = atTheBeginning();
        if (first > 0) {
            v.pass(first);
        }
        for (int gone = 0; gone < 80; gone++) {
            int now = first + gone;
            Check.same("at " + now + ", the farthest hour is new", v.nominate(0, now + 60, now + 60), 0);
            int near = gone < 58 ? 0 : now + 2;
            Check.same("at " + now + ", the nearest hour", v.nominate(0, now + 2, near - 1), near);
            Check.same("at " + now + ", told anew", v.nominate(0, now + 2, now + 2), near - 1);
            Check.same("at " + now + ", comes", v.flow(0), gone < 2 ? 0 : Math.min(100, now));
            v.pass(1);
        }
    }

    @Says(promise = 8, value = "`units`: -1000000 to 1000000: to bring, or, below 0, to take")
    private static void unitsToNominate() {
        Check.range("units", -1000000, 1000000, Scenes::busy, (v, units) -> v.nominate(3, 40, units));
        Check.refused("hour and units out of range", Check.ARGUMENT, Scenes::busy, v -> v.nominate(3, 31, 1000001));
        for (int units : new int[] {-1000000, -999999, -1, 0, 1, 999999, 1000000}) {
            Gasvault v = atTheBeginning();
            v.nominate(0, 2, units);
            Check.same("told", v.nominate(0, 2, 0), units);
        }
    }

    // ---- promise 9

    /** Customers with 500 of 1000, 40 of 100, 0 of 1000000. */
    private static Gasvault three() {
        Gasvault v = Scenes.wide();
        v.customer(1000, 1000, 1000, 0);
        v.customer(100, 1000, 1000, 0);
        v.customer(1000000, 1000, 1000, 0);
        v.nominate(0, 2, 500);
        v.nominate(1, 2, 40);
        v.nominate(2, 5, 3);
        v.pass(4);
        return v;
    }

    @Says(promise = 9, value = {"`from`: the number of a customer",
            "Throws `IndexOutOfBoundsException` if there is no such customer, of either"})
    private static void fromACustomer() {
        Check.outside("from", 0, 2, Check.INDEX, EdgesOfCustomersTest::three, (v, from) -> v.transfer(from, 0, 5));
        Check.outside("from, units 0", 0, 2, Check.INDEX, EdgesOfCustomersTest::three,
                (v, from) -> v.transfer(from, 0, 0));
        Check.outside("from and to", 0, 2, Check.INDEX, EdgesOfCustomersTest::three,
                (v, from) -> v.transfer(from, from, 5));
        Check.outside("from of none", 0, -1, Check.INDEX, Gasvault::new, (v, from) -> v.transfer(from, 0, 5));
        Check.same("the first", three().transfer(0, 2, 5), 5);
        Check.same("the last", Scenes.rich(10, 5, 5, 10).transfer(5, 0, 10), 200000);
    }

    @Says(promise = 9, value = "`to`: the number of a customer")
    private static void toACustomer() {
        Check.outside("to", 0, 2, Check.INDEX, EdgesOfCustomersTest::three, (v, to) -> v.transfer(0, to, 5));
        Check.outside("to, units 1000001", 0, 2, Check.INDEX, EdgesOfCustomersTest::three,
                (v, to) -> v.transfer(0, to, 1000001));
        Check.outside("to, more than there is", 0, 2, Check.INDEX, EdgesOfCustomersTest::three,
                (v, to) -> v.transfer(0, to, 501));
        Check.same("the first", three().transfer(1, 0, 5), 505);
        Check.same("the last", three().transfer(1, 2, 5), 5);
    }

    /** The one who has all of 1000000, as 5 others had it. */
    private static Gasvault all() {
        return Scenes.rich(1000000, 5, 5, 1000000);
    }

    @Says(promise = 9, value = {"`units`: 1 to 1000000",
            "Throws `IllegalArgumentException` if both are the same, or units is out of range"})
    private static void unitsToTransfer() {
        Check.range("units", 1, 1000000, EdgesOfCustomersTest::all, (v, units) -> v.transfer(5, 0, units));
        Check.same("1", all().transfer(5, 0, 1), 1);
        Check.same("1000000", all().transfer(5, 0, 1000000), 1000000);
        Check.outside("units that it has not", 1, 1000000, Check.ARGUMENT, EdgesOfCustomersTest::three,
                (v, units) -> v.transfer(2, 0, units));
        for (int customer = 0; customer < 3; customer++) {
            int c = customer;
            Check.refused("to itself, " + c, Check.ARGUMENT, EdgesOfCustomersTest::three, v -> v.transfer(c, c, 1));
            Check.refused("to itself, units 0, " + c, Check.ARGUMENT, EdgesOfCustomersTest::three,
                    v -> v.transfer(c, c, 0));
            Check.refused("to itself, more than it has, " + c, Check.ARGUMENT, EdgesOfCustomersTest::three,
                    v -> v.transfer(c, c, 1000000));
        }
    }

    @Says(promise = 9, value = "Throws `IllegalStateException` if the one has less, or the volume of the other one is"
            + " not enough")
    private static void hasLessOrHoldsLess() {
        Check.refused("one more than it has", Check.STATE, EdgesOfCustomersTest::three, v -> v.transfer(0, 2, 501));
        Check.same("all that it has", three().transfer(0, 2, 500), 500);
        Check.refused("of nothing", Check.STATE, EdgesOfCustomersTest::three, v -> v.transfer(2, 0, 1));
        Check.refused("one more than the other holds", Check.STATE, EdgesOfCustomersTest::three,
                v -> v.transfer(0, 1, 61));
        Check.same("all that the other holds", three().transfer(0, 1, 60), 100);
        Check.refused("neither has nor holds", Check.STATE, EdgesOfCustomersTest::three, v -> v.transfer(2, 1, 61));
        Check.refused("1000000 of 999999", Check.STATE, () -> Scenes.rich(1000000, 5, 5, 999999),
                v -> v.transfer(5, 0, 1000000));
        Check.same("to one who has none", Scenes.rich(1000000, 5, 5, 999999).transfer(5, 0, 999999), 999999);
        Gasvault v = three();
        v.transfer(0, 1, 60);
        Check.same("to a full one", Check.answer(v, x -> x.transfer(0, 1, 1)), Check.STATE.getName());
        Check.same("from a full one", v.transfer(1, 0, 100), 540);
        Check.same("from one who has no more", Check.answer(v, x -> x.transfer(1, 0, 1)), Check.STATE.getName());
    }

    // ---- promise 17

    @Says(promise = 17, value = {"`customer`: the number of a customer",
            "Throws `IndexOutOfBoundsException` if there is no such customer"})
    private static void ofACustomer() {
        for (int what = 0; what <= 5; what++) {
            int w = what;
            Check.onCustomers((v, customer) -> v.ofCustomer(customer, w));
        }
        Check.refused("customer 5 of five, what 6", Check.INDEX, Scenes::busy, v -> v.ofCustomer(5, 6));
        Check.refused("customer -1, what -1", Check.INDEX, Scenes::busy, v -> v.ofCustomer(-1, -1));
        Check.refused("customer 0 of none, what 6", Check.INDEX, Gasvault::new, v -> v.ofCustomer(0, 6));
    }

    @Says(promise = 17, value = {"Throws `IllegalArgumentException` if what is out of range",
            "`what`: 0 the inventory, 1 the rate in now, 2 the rate out now, 3 what was brought so far, 4 what was"
                    + " taken, 5 by how much it was curtailed so far by steps 2 and 3, in both ways together"})
    private static void whatOfACustomer() {
        for (int customer = 0; customer < 6; customer++) {
            int c = customer;
            Check.range("customer " + c + ", what", 0, 5, Scenes::full, (v, what) -> v.ofCustomer(c, what));
        }
        Gasvault v = Scenes.holding(300, 71, 31, 99);
        v.nominate(1, 7, 72);
        v.nominate(1, 10, -32);
        v.nominate(1, 13, 71);
        v.law(10, 10, 150);
        v.pass(3);
        all(v, 170, 71, 31, 71, 0, 0);
        v.pass(3);
        all(v, 150, 71, 31, 71, 20, 11);
        v.wells(0, 0, 0);
        v.pass(3);
        all(v, 150, 71, 31, 71, 20, 11 + 71);
    }

    private static void all(Gasvault v, long... due) {
        for (int what = 0; what < 6; what++) {
            Check.same("what " + what, v.ofCustomer(1, what), due[what]);
        }
    }
}
