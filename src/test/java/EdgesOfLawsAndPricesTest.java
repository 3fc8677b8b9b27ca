/** Sentence by sentence, the edges that the document names for laws and prices: its terms, promises 10 and 11. */
public final class EdgesOfLawsAndPricesTest {
    public static void main(String[] args) throws ReflectiveOperationException {
        Sentences.test(EdgesOfLawsAndPricesTest.class);
    }

    private static void laws(String what, Gasvault v, long... due) {
        for (long least : due) {
            Check.same(what + ", the law of hour " + v.of(0), v.of(7), least);
            v.pass(1);
        }
    }

    /** One who has 100 of 1000 and takes so much in the hour 7, for which laws are told. */
    private static Gasvault taker(int units, int... leasts) {
        Gasvault v = Scenes.holding(1000, 1000, 1000, 100);
        v.nominate(1, 7, -units);
        for (int least : leasts) {
            v.law(7, 7, least);
        }
        v.pass(2);
        return v;
    }

    // ---- terms

    @Says("for some hours, from one to another one, both with it,")
    private static void bothHoursWithIt() {
        Gasvault v = new Gasvault();
        v.law(2, 4, 9);
        laws("2 to 4", v, 0, 0, 9, 9, 9, 0, 0);
        Gasvault one = new Gasvault();
        one.law(3, 3, 9);
        laws("3 to 3", one, 0, 0, 0, 9, 0);
        Gasvault now = new Gasvault();
        now.law(0, 0, 9);
        laws("0 to 0", now, 9, 0);
        Gasvault last = Scenes.late(2);
        last.law(9899, 9900, 9);
        laws("to the last hour", last, 0, 9);
        Check.same("in the last hour", last.of(7), 9);
        for (int hour = 6; hour <= 10; hour++) {
            Gasvault w = Scenes.holding(1000, 1000, 1000, 100);
            w.nominate(1, hour + 1, -60);
            w.law(8, 10, 100);
            w.pass(hour - 4);
            Check.same("takes in the hour " + (hour + 1), w.flow(1), hour + 1 < 8 || hour + 1 > 10 ? -60 : 0);
        }
    }

    @Says("the inventories of all customers, together, are at least so much;")
    private static void inventoriesTogether() {
        Check.same("just so much stays", taker(60, 40).flow(1), -60);
        Check.same("one less would", taker(60, 41).flow(1), -59);
        Check.same("the other one's count too", withOther(60, 140).flow(1), -60);
        Check.same("and not more than they are", withOther(60, 141).flow(1), -59);
    }

    /** The same, but customer 0 has 100 as well, and the store of 500000 has more than any law asks for. */
    private static Gasvault withOther(int units, int least) {
        Gasvault v = Scenes.holding(1000, 1000, 1000, 200);
        v.transfer(1, 0, 100);
        v.nominate(1, 7, -units);
        v.law(7, 7, least);
        v.pass(2);
        return v;
    }

    @Says("the law that was told last of those for an hour counts, also if it is less than others.")
    private static void toldLastCounts() {
        Check.same("the greater one last", taker(60, 50, 90).flow(1), -10);
        Check.same("the less one last", taker(60, 90, 50).flow(1), -50);
        Check.same("one of 0 last", taker(60, 90, 0).flow(1), -60);
        Check.same("the same one twice", taker(60, 90, 90).flow(1), -10);
        Check.same("the last of three", taker(60, 90, 50, 70).flow(1), -30);
        Gasvault v = new Gasvault();
        v.law(1, 5, 300);
        v.law(2, 4, 100);
        v.law(3, 3, 0);
        v.law(6, 6, 900);
        laws("one in another", v, 0, 300, 100, 0, 100, 300, 900, 0);
        Gasvault late = new Gasvault();
        late.law(0, 10, 5);
        late.pass(3);
        Check.same("told before", late.of(7), 5);
        late.law(3, 4, 2);
        laws("told as it goes on", late, 2, 2, 5);
        late.law(8, 8, 1);
        Check.same("one for another hour told last", late.of(7), 5);
    }

    // ---- promise 10

    @Says(promise = 10, value = "`from`: now to 10000")
    private static void fromNow() {
        Check.range("at 30, from", 30, 10000, Scenes::busy, (v, from) -> v.law(from, 10000, 5));
        Check.range("at 0, from", 0, 10000, Gasvault::new, (v, from) -> v.law(from, 10000, 5));
        Check.range("at 9900, from", 9900, 10000, () -> Scenes.late(0), (v, from) -> v.law(from, 10000, 5));
        Gasvault v = new Gasvault();
        v.pass(5);
        v.law(5, 6, 3);
        laws("from now", v, 3, 3, 0);
    }

    @Says(promise = 10, value = "`to`: from to 10000")
    private static void toFromOn() {
        Check.range("to", 30, 10000, Scenes::busy, (v, to) -> v.law(30, to, 5));
        Check.range("to", 77, 10000, Scenes::busy, (v, to) -> v.law(77, to, 5));
        Check.range("to", 10000, 10000, Scenes::busy, (v, to) -> v.law(10000, to, 5));
        Check.range("to", 0, 10000, Gasvault::new, (v, to) -> v.law(0, to, 5));
    }

    @Says(promise = 10, value = "`least`: 0 to 10000000")
    private static void leasts() {
        Check.range("least", 0, 10000000, Scenes::busy, (v, least) -> v.law(30, 40, least));
        for (int least : new int[] {0, 1, 9999999, 10000000}) {
            Gasvault v = new Gasvault();
            v.law(0, 0, least);
            Check.same("asked", v.of(7), least);
        }
        Check.same("none for all", taker(60, 10000000).flow(1), 0);
        Check.same("all for none", taker(100, 0).flow(1), -100);
    }

    @Says(promise = 10, value = {"Throws `IllegalArgumentException` if an argument is out of range",
            "Throws `IllegalStateException` if there are 20"})
    private static void twentyLaws() {
        Check.same("the twentieth", Scenes.busy().law(30, 40, 5), 20);
        Check.refused("one more", Check.STATE, Scenes::full, v -> v.law(30, 40, 5));
        Check.refused("one more, for the last hour", Check.STATE, Scenes::full, v -> v.law(10000, 10000, 0));
        Check.outside("one more, from", 30, 10000, Check.ARGUMENT, Scenes::full, (v, x) -> v.law(x, 10000, 5));
        Check.outside("one more, to", 40, 10000, Check.ARGUMENT, Scenes::full, (v, x) -> v.law(40, x, 5));
        Check.outside("one more, least", 0, 10000000, Check.ARGUMENT, Scenes::full, (v, x) -> v.law(40, 40, x));
        Gasvault v = new Gasvault();
        for (int i = 1; i <= 20; i++) {
            Check.same("how many then", v.law(0, 0, i), i);
        }
        Check.same("a twenty-first", Check.answer(v, x -> x.law(0, 0, 21)), Check.STATE.getName());
        Check.same("does not count", v.of(7), 20);
        v.pass(240);
        Check.same("when all have gone by", Check.answer(v, x -> x.law(240, 240, 1)), Check.STATE.getName());
    }

    // ---- promise 11

    @Says(promise = 11, value = {"`hour`: now to now and 60",
            "Throws `IllegalArgumentException` if hour or cents is out of range"})
    private static void hoursOfPrices() {
        Check.range("at 30, hour", 30, 90, Scenes::busy, (v, hour) -> v.price(hour, 5));
        Check.range("at 0, hour", 0, 60, Gasvault::new, (v, hour) -> v.price(hour, 5));
        Check.range("at 9900, hour", 9900, 9960, () -> Scenes.late(0), (v, hour) -> v.price(hour, 5));
        for (int hour : new int[] {0, 28, 29, 91, 92, 93, 94, 95}) {
            Check.refused("at 30, hour " + hour, Check.ARGUMENT, Scenes::busy, v -> v.price(hour, 5));
        }
    }

    @Says(promise = 11, value = "`cents`: -1000 to 1000: for a unit")
    private static void cents() {
        Check.range("cents", -1000, 1000, Scenes::busy, (v, cents) -> v.price(40, cents));
        Check.refused("hour and cents out of range", Check.ARGUMENT, Scenes::busy, v -> v.price(29, 1001));
        for (int cents : new int[] {-1000, -999, -1, 0, 1, 999, 1000}) {
            Gasvault v = new Gasvault();
            v.price(0, cents);
            Check.same("told", v.price(0, 3), cents);
        }
    }

    @Says("Prices are told for the hours to come, 0 at first.")
    private static void nothingAtFirst() {
        Gasvault none = new Gasvault();
        for (int hour = 0; hour <= 60; hour++) {
            Check.same("never told, " + hour, none.price(hour, 0), 0);
        }
        eachHourFrom(0);
        eachHourFrom(5);
        eachHourFrom(67);
        eachHourFrom(130);
        eachHourFrom(240);
    }

    /** For longer than 60 hours: the farthest hour is its own, and no other one's. */
    private static void eachHourFrom(int first) {
        Gasvault v = new Gasvault();
        v.customer(1, 1, 1, 0);
        if (first > 0) {
            v.pass(first);
        }
        for (int gone = 0; gone < 80; gone++) {
            int now = first + gone;
            Check.same("at " + now + ", the farthest hour is new", v.price(now + 60, 60 + now), 0);
            Check.same("at " + now + ", this hour", v.price(now, -now), gone < 60 ? 0 : now);
            Check.same("at " + now + ", 1 that is brought at its price", v.worth(0, 1), now);
            Check.same("at " + now + ", told anew", v.price(now, now), -now);
            Check.same("at " + now + ", 1 that is brought does not pay", v.worth(0, 1), 0);
            v.pass(1);
        }
    }
}
