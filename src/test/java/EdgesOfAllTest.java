/** Sentence by sentence, the edges that the document names for an object as a whole; promises 1 and 22. */
public final class EdgesOfAllTest {
    public static void main(String[] args) throws ReflectiveOperationException {
        Sentences.test(EdgesOfAllTest.class);
    }

    @Says(promise = 1, value = "Creates a house without stores and customers; the heat of what comes is 10000.")
    private static void newObject() {
        for (int what = 0; what < 8; what++) {
            Check.same("of(" + what + ")", new Gasvault().of(what), 0);
        }
        Check.refused("a store", Check.INDEX, Gasvault::new, v -> v.pressure(0));
        Check.refused("a customer", Check.INDEX, Gasvault::new, v -> v.flow(0));
        Check.same("the heat told", new Gasvault().heat(0), 10000);
        Gasvault v = new Gasvault();
        v.store(Gasvault.LAYER, 1, 1, 0, 100, 1);
        Check.same("the heat of a unit", v.ofStore(0, 4), 10000);
    }

    @Says("Hours are counted; it is the hour 0 at first.")
    private static void hourNothingAtFirst() {
        Gasvault v = new Gasvault();
        Check.same("at first", v.of(0), 0);
        Check.same("a price of it", v.price(0, 1), 0);
        Check.same("a law for it", v.law(0, 0, 3), 1);
        Check.same("the law of it", v.of(7), 3);
        Check.same("then", v.pass(1), 1);
        Check.same("counted", v.of(0), 1);
    }

    @Says("A call that throws an exception changes nothing;")
    private static void refusedCallsChangeNothing() {
        Check.Call[] refused = {x -> x.store(0, 10, 5, 0, 100, 0), x -> x.store(3, 10, 5, 0, 100, 0),
                x -> x.wells(5, 1, 1), x -> x.wells(0, 101, 1), x -> x.leak(5, 1), x -> x.leak(0, 1001),
                x -> x.leach(5, 1), x -> x.leach(3, 0), x -> x.leach(0, 1), x -> x.leach(3, 100000),
                x -> x.heat(20001), x -> x.customer(0, 1, 1, 1), x -> x.customer(1, 1, 1, 1),
                x -> x.nominate(6, 40, 1), x -> x.nominate(0, 31, 1), x -> x.nominate(0, 40, 1000001),
                x -> x.transfer(6, 0, 1), x -> x.transfer(0, 0, 1), x -> x.transfer(0, 1, 1000000),
                x -> x.law(29, 40, 1), x -> x.law(30, 40, 1), x -> x.price(29, 1), x -> x.price(30, 1001),
                x -> x.pass(0), x -> x.pass(241), x -> x.pressure(5), x -> x.rate(5, true), x -> x.mix(5),
                x -> x.ofStore(5, 0), x -> x.ofStore(0, 7), x -> x.ofCustomer(6, 0), x -> x.ofCustomer(0, 6),
                x -> x.flow(6), x -> x.why(6), x -> x.worth(6, 1), x -> x.worth(0, 9), x -> x.worthAnew(6, 1),
                x -> x.worthAnew(0, 9), x -> x.of(8)};
        String untouched = Look.now(Scenes.full());
        for (int i = 0; i < refused.length; i++) {
            Gasvault v = Scenes.full();
            String got = Check.answer(v, refused[i]);
            Check.same("call " + i + " is refused", got.startsWith("java.lang.I") ? "refused" : got, "refused");
            Check.same("call " + i + " changes nothing", Look.now(v), untouched);
        }
        for (int look = 0; look < Look.KINDS; look++) {
            Gasvault v = Scenes.full();
            for (Check.Call call : refused) {
                Check.answer(v, call);
            }
            Check.same("all of them, look " + look, Look.ahead(v, look), Look.ahead(Scenes.full(), look));
        }
    }

    /** Each call that may throw more than one, with arguments for which all of them apply, and all but the first. */
    @Says("if several exceptions apply, the one that its throws clause names first is thrown.")
    private static void firstOfSeveral() {
        first("store", Check.ARGUMENT, v -> v.store(0, 0, 0, 0, 100, 0), Check.STATE,
                v -> v.store(0, 1, 0, 0, 100, 0));
        first("wells", Check.INDEX, v -> v.wells(5, 101, 1001), Check.ARGUMENT, v -> v.wells(4, 101, 1001));
        first("leak", Check.INDEX, v -> v.leak(5, 1001), Check.ARGUMENT, v -> v.leak(4, 1001));
        first("leach", Check.INDEX, v -> v.leach(5, 100001), Check.ARGUMENT, v -> v.leach(4, 100001));
        first("leach", Check.INDEX, v -> v.leach(-1, 0), Check.ARGUMENT, v -> v.leach(0, 0));
        first("leach", Check.ARGUMENT, v -> v.leach(0, 0), Check.STATE, v -> v.leach(0, 1));
        first("customer", Check.ARGUMENT, v -> v.customer(0, 1, 1, 1), Check.STATE, v -> v.customer(1, 1, 1, 1));
        first("nominate", Check.INDEX, v -> v.nominate(6, 31, 1000001), Check.ARGUMENT,
                v -> v.nominate(5, 31, 1000001));
        first("transfer", Check.INDEX, v -> v.transfer(6, 6, 0), Check.ARGUMENT, v -> v.transfer(5, 5, 0));
        first("transfer", Check.INDEX, v -> v.transfer(5, 6, 1000000), Check.STATE, v -> v.transfer(5, 4, 1000000));
        first("transfer", Check.INDEX, v -> v.transfer(6, 5, 1000000), Check.STATE, v -> v.transfer(4, 5, 1000000));
        first("transfer", Check.ARGUMENT, v -> v.transfer(5, 5, 1000000), Check.STATE,
                v -> v.transfer(5, 4, 1000000));
        first("transfer", Check.ARGUMENT, v -> v.transfer(5, 4, 1000001), Check.STATE,
                v -> v.transfer(5, 4, 1000000));
        first("law", Check.ARGUMENT, v -> v.law(29, 30, 0), Check.STATE, v -> v.law(30, 30, 0));
        first("ofStore", Check.INDEX, v -> v.ofStore(5, 7), Check.ARGUMENT, v -> v.ofStore(4, 7));
        first("ofCustomer", Check.INDEX, v -> v.ofCustomer(6, 6), Check.ARGUMENT, v -> v.ofCustomer(5, 6));
        first("worth", Check.INDEX, v -> v.worth(6, 9), Check.ARGUMENT, v -> v.worth(5, 9));
        first("worthAnew", Check.INDEX, v -> v.worthAnew(6, 9), Check.ARGUMENT, v -> v.worthAnew(5, 9));
        Check.refused("pass, of 241 above the last hour", Check.ARGUMENT, () -> Scenes.late(1), v -> v.pass(241));
        Check.refused("pass, of 240 above the last hour", Check.STATE, () -> Scenes.late(1), v -> v.pass(240));
    }

    private static void first(String what, Class<?> first, Check.Call all, Class<?> second, Check.Call rest) {
        Check.refused(what + ", all apply", first, Scenes::full, all);
        Check.refused(what + ", all but the first", second, Scenes::full, rest);
    }

    @Says(promise = 22, value = {"Throws `IllegalArgumentException` if what is out of range",
            "`what`: 0 the hour, 1 what came, with that of stores as they were taken up, 2 what went out, 3 what was"
                    + " lost, 4 what is in all stores, 5 all inventories, 6 what of the stores is nobody's, which can be"
                    + " below 0, 7 the law of this hour, 0 without"})
    private static void whatOfAll() {
        Check.range("what", 0, 7, Scenes::busy, (v, what) -> v.of(what));
        Check.range("what", 0, 7, Gasvault::new, (v, what) -> v.of(what));
        Gasvault v = new Gasvault();
        v.store(Gasvault.LAYER, 1000, 10, 0, 1000, 1000000);
        v.wells(0, 100, 1000);
        v.customer(1000, 1000, 1000, 0);
        v.nominate(0, 2, 50);
        v.nominate(0, 5, -20);
        v.law(6, 6, 25);
        all(v, 0, 10, 0, 0, 10, 0, 10, 0);
        v.pass(3);
        all(v, 3, 60, 0, 0, 60, 50, 10, 0);
        v.pass(3);
        all(v, 6, 60, 20, 0, 40, 30, 10, 25);
        v.leak(0, 10);
        v.pass(1);
        all(v, 7, 60, 20, 10, 30, 30, 0, 0);
        v.leak(0, 1);
        v.pass(1);
        all(v, 8, 60, 20, 11, 29, 30, -1, 0);
        v.leak(0, 1000);
        v.pass(1);
        all(v, 9, 60, 20, 40, 0, 30, -30, 0);
    }

    private static void all(Gasvault v, long... due) {
        for (int what = 0; what < 8; what++) {
            Check.same("at " + due[0] + ", of(" + what + ")", v.of(what), due[what]);
        }
    }
}
