/** Sentence by sentence, the edges that the document names for an hour; promises 12, 18 and 19. */
public final class EdgesOfAnHourTest {
    private static final int FIELD = Gasvault.FIELD, CAVERN = Gasvault.CAVERN, LAYER = Gasvault.LAYER;

    public static void main(String[] args) throws ReflectiveOperationException {
        Sentences.test(EdgesOfAnHourTest.class);
    }

    // ---- step 1

    /** Customer 1 has so much of 300, rates of 71 and 31, and nominates for the hour 7, in which it is. */
    private static Gasvault nominates(int inventory, int units) {
        Gasvault v = Scenes.holding(300, 71, 31, inventory);
        v.nominate(1, 7, units);
        v.pass(2);
        return v;
    }

    private static void less(int inventory, int units, int flow) {
        Gasvault v = nominates(inventory, units);
        String what = units + " with " + inventory;
        Check.same(what + ", flow", v.flow(1), flow);
        Check.same(what + ", why", v.why(1), flow == units ? 0 : 1);
        v.pass(1);
        Check.same(what + ", inventory", v.ofCustomer(1, 0), inventory + flow);
        Check.same(what + ", brought", v.ofCustomer(1, 3), Math.max(0, flow));
        Check.same(what + ", taken", v.ofCustomer(1, 4), Math.max(0, -flow));
        Check.same(what + ", step 1 does not curtail", v.ofCustomer(1, 5), 0);
        Check.same(what + ", gas of the store", v.ofStore(0, 0), 500000 + inventory + flow);
    }

    @Says({"Of each customer what is nominated for it is made less, if need be: to the rate in, and to the volume less"
            + " the inventory;"})
    private static void lessToRateInAndVolume() {
        int[][] due = {{0, 0, 0}, {0, 1, 1}, {0, 70, 70}, {0, 71, 71}, {0, 72, 71}, {0, 1000000, 71},
                {200, 71, 71}, {200, 72, 71}, {201, 35, 35}, {201, 36, 35}, {264, 36, 35}, {265, 35, 35},
                {265, 36, 35}, {266, 34, 34}, {266, 35, 34}, {299, 1, 1}, {299, 2, 1}, {300, 0, 0}, {300, 1, 0},
                {300, 1000000, 0}};
        for (int[] row : due) {
            less(row[0], row[1], row[2]);
        }
    }

    @Says("or to the rate out, and to the inventory;")
    private static void lessToRateOutAndInventory() {
        int[][] due = {{300, -1, -1}, {300, -30, -30}, {300, -31, -31}, {300, -32, -31}, {300, -1000000, -31},
                {100, -31, -31}, {100, -32, -31}, {99, -15, -15}, {99, -16, -15}, {16, -16, -15}, {15, -15, -15},
                {15, -16, -15}, {14, -14, -14}, {14, -15, -14}, {1, -1, -1}, {1, -2, -1}, {0, -1, 0},
                {0, -1000000, 0}};
        for (int[] row : due) {
            less(row[0], row[1], row[2]);
        }
    }

    @Says("rates as the inventories are now.")
    private static void ratesAsInventoriesAreNow() {
        Gasvault v = nominates(201, 71);
        Check.same("with 201", v.flow(1), 35);
        v.transfer(1, 0, 1);
        Check.same("with 200", v.flow(1), 71);
        v.pass(1);
        Check.same("all of it, though it gets above 200", v.ofCustomer(1, 0), 271);
        Gasvault w = nominates(100, -31);
        Check.same("with 100", w.flow(1), -31);
        w.transfer(1, 0, 1);
        Check.same("with 99", w.flow(1), -15);
        w.transfer(0, 1, 1);
        w.pass(1);
        Check.same("all of it, though it gets below 100", w.ofCustomer(1, 0), 69);
        Gasvault x = nominates(15, -15);
        x.transfer(1, 0, 15);
        Check.same("when it has given all away", x.flow(1), 0);
        Check.same("why", x.why(1), 1);
    }

    // ---- step 2

    /** 100 each of three with ranks 0, 1, 0, who take 40, 30, 20 in the hour 7, for which there is a law. */
    private static Gasvault takers(int least) {
        Gasvault v = Scenes.wide();
        for (int i = 0; i < 3; i++) {
            v.customer(1000, 1000, 1000, i % 2);
            v.nominate(i, 2, 100);
            v.nominate(i, 7, 10 * i - 40);
        }
        v.law(7, 7, least);
        v.pass(7);
        return v;
    }

    private static void goes(int least, int... due) {
        int[] wish = {-40, -30, -20};
        Gasvault v = takers(least);
        for (int i = 0; i < 3; i++) {
            Check.same("a law of " + least + ", flow of " + i, v.flow(i), due[i]);
            Check.same("a law of " + least + ", why of " + i, v.why(i), due[i] == wish[i] ? 0 : 2);
        }
        v.pass(1);
        for (int i = 0; i < 3; i++) {
            Check.same("a law of " + least + ", curtailed " + i, v.ofCustomer(i, 5), due[i] - wish[i]);
            Check.same("a law of " + least + ", taken by " + i, v.ofCustomer(i, 4), -due[i]);
        }
    }

    @Says({"If a law counts, those who take get, together, at most what all inventories are above it, now, at least 0;",
            "if they would get more, it is curtailed by as much."})
    private static void lawLetsGoWhatIsAboveIt() {
        goes(0, -40, -30, -20);
        goes(209, -40, -30, -20);
        goes(210, -40, -30, -20);
        goes(211, -40, -29, -20);
        goes(239, -40, -1, -20);
        goes(240, -40, 0, -20);
        goes(241, -40, 0, -19);
        goes(260, -40, 0, 0);
        goes(261, -39, 0, 0);
        goes(299, -1, 0, 0);
        goes(300, 0, 0, 0);
        goes(301, 0, 0, 0);
        goes(10000000, 0, 0, 0);
    }

    /** 100 of one, of which a law keeps 60; 50 that another one brings in the same hour let no more go. */
    @Says("what all inventories are above it, now, at least 0;")
    private static void whatIsBroughtInTheHourDoesNotCount() {
        for (int least : new int[] {59, 60, 61}) {
            Gasvault v = Scenes.holding(1000, 1000, 1000, 100);
            v.nominate(0, 7, 50);
            v.nominate(1, 7, -40);
            v.law(7, 7, least);
            v.pass(2);
            Check.same("a law of " + least + ", brings", v.flow(0), 50);
            Check.same("a law of " + least + ", takes", v.flow(1), -Math.min(40, 100 - least));
            v.transfer(1, 0, 100);
            Check.same("who has given all away", v.flow(1), 0);
            v.transfer(0, 1, 99);
            Check.same("and got it back but 1", v.flow(1), -Math.min(40, 100 - least));
        }
    }

    @Says("If a law counts,")
    private static void noLawAndNoOneTakes() {
        Gasvault v = Scenes.holding(1000, 1000, 1000, 100);
        v.nominate(1, 7, -100);
        v.law(5, 6, 10000000);
        v.law(8, 9, 10000000);
        v.pass(2);
        Check.same("between two laws", v.flow(1), -100);
        Check.same("why", v.why(1), 0);
        Gasvault w = Scenes.holding(1000, 1000, 1000, 100);
        w.nominate(1, 7, 100);
        w.law(7, 7, 10000000);
        w.pass(2);
        Check.same("who brings is not curtailed by it", w.flow(1), 100);
        Check.same("why", w.why(1), 0);
    }

    // ---- step 3

    /** Two customers with 100 of 1000 each nominate for the hour 7, in which it is; the plant does so much. */
    private static Gasvault two(int one, int other, int plant) {
        Gasvault v = Scenes.holding(1000, 1000, 1000, 200);
        v.transfer(1, 0, 100);
        v.nominate(0, 7, one);
        v.nominate(1, 7, other);
        v.wells(0, 0, 0);
        v.store(CAVERN, 1000, 5000, 0, 1000, 0);
        v.wells(1, 1, plant / 5);
        v.pass(2);
        return v;
    }

    private static void net(int one, int other, int plant, int dueOne, int dueOther) {
        Gasvault v = two(one, other, plant);
        String what = one + " and " + other + " where " + plant + " can flow";
        Check.same(what + ", flow of the one", v.flow(0), dueOne);
        Check.same(what + ", flow of the other", v.flow(1), dueOther);
        Check.same(what + ", why of the one", v.why(0), one == dueOne ? 0 : 3);
        Check.same(what + ", why of the other", v.why(1), other == dueOther ? 0 : 3);
        v.pass(1);
        Check.same(what + ", gas", v.ofStore(1, 0), 5000 + dueOne + dueOther);
        Check.same(what + ", inventories", v.of(5), 200 + dueOne + dueOther);
        Check.same(what + ", came", v.of(1), 505200 + Math.max(0, dueOne + dueOther));
        Check.same(what + ", went out", v.of(2), Math.max(0, -dueOne - dueOther));
        Check.same(what + ", brought", v.ofCustomer(0, 3), 200 + Math.max(0, dueOne));
        Check.same(what + ", taken", v.ofCustomer(0, 4), Math.max(0, -dueOne));
        Check.same(what + ", curtailed", v.ofCustomer(0, 5) + v.ofCustomer(1, 5),
                Math.abs(one - dueOne) + Math.abs(other - dueOther));
    }

    @Says({"What is brought less what is taken, together, is the net.",
            "The plant flows in, if that is above 0, and out, if it is below 0.",
            "inventories become more, or less, by what is brought, or taken."})
    private static void netAboveOrBelowNothing() {
        net(40, -40, 0, 40, -40);
        net(41, -40, 0, 40, -40);
        net(40, -41, 0, 40, -40);
        net(-40, 41, 0, -40, 40);
        net(0, 0, 0, 0, 0);
        net(1, 0, 0, 0, 0);
        net(0, -1, 0, 0, 0);
        net(41, -40, 5, 41, -40);
        net(40, -41, 5, 40, -41);
    }

    @Says({"If the net is more, in size, what is brought is curtailed by as much, if the plant were to flow in,",
            "otherwise what is taken."})
    private static void netAboveWhatThePlantCan() {
        net(40, 10, 50, 40, 10);
        net(40, 11, 50, 40, 10);
        net(50, 1, 50, 50, 0);
        net(51, 40, 50, 50, 0);
        net(90, -40, 50, 90, -40);
        net(91, -40, 50, 90, -40);
        net(-40, 100, 50, -40, 90);
        net(-40, -10, 50, -40, -10);
        net(-40, -11, 50, -40, -10);
        net(-51, -40, 50, -50, 0);
        net(-90, 40, 50, -90, 40);
        net(-91, 40, 50, -90, 40);
        net(40, -100, 50, 40, -90);
    }

    /** It flows in the hour 7; so many hours after it is to flow the other way, or the same. */
    private static Gasvault turns(int units, int back, int after) {
        Gasvault v = Scenes.wide();
        v.customer(1000, 1000, 1000, 0);
        v.nominate(0, 2, 500);
        v.pass(5);
        v.nominate(0, 7, units);
        v.nominate(0, 7 + after, back);
        v.pass(2 + after);
        return v;
    }

    @Says({"It cannot flow in, if it flowed out in one of the two hours ahead of this one, and the other way round",
            "0 if it cannot flow."})
    private static void twoHoursToTurn() {
        int[][] ways = {{1, -1}, {50, -50}, {-1, 1}, {-50, 50}};
        for (int[] way : ways) {
            for (int after = 1; after <= 4; after++) {
                Gasvault v = turns(way[0], way[1], after);
                String what = way[1] + ", " + after + " after " + way[0];
                Check.same(what + ", flow", v.flow(0), after <= 2 ? 0 : way[1]);
                Check.same(what + ", why", v.why(0), after <= 2 ? 3 : 0);
                v.pass(1);
                Check.same(what + ", curtailed", v.ofCustomer(0, 5), after <= 2 ? Math.abs(way[1]) : 0);
                Gasvault on = turns(way[0], way[0], after);
                Check.same(what + ", but on the same way", on.flow(0), way[0]);
                Check.same(what + ", but on the same way, why", on.why(0), 0);
            }
        }
        Gasvault first = Scenes.wide();
        first.customer(1000, 1000, 1000, 0);
        first.nominate(0, 2, 1);
        first.pass(2);
        Check.same("nothing flowed ahead of the first hours", first.flow(0), 1);
    }

    /** In at 7, 8 and 10, so that out is blocked up to 12; out at 13, so that in is blocked at 14. */
    @Says("in one of the two hours ahead of this one,")
    private static void blockedByTheLastOfMany() {
        Gasvault v = Scenes.wide();
        v.customer(1000, 1000, 1000, 0);
        v.customer(1000, 1000, 1000, 0);
        v.nominate(0, 2, 500);
        v.nominate(0, 7, 10);
        v.nominate(0, 8, 10);
        v.nominate(0, 9, -10);
        v.nominate(0, 10, 10);
        for (int hour = 11; hour <= 13; hour++) {
            v.nominate(0, hour, -10);
        }
        v.nominate(0, 14, 10);
        v.pass(7);
        int[] due = {10, 10, 0, 10, 0, 0, -10, 0};
        for (int hour = 7; hour <= 14; hour++) {
            Check.same("in the hour " + hour, v.flow(0), due[hour - 7]);
            v.pass(1);
        }
    }

    @Says("(an hour in which nothing goes into the stores, or out of them, by step 4 is none in which it flowed).")
    private static void hoursInWhichItDidNotFlow() {
        noFlow("as much brought as taken", 100, -100, 1000, true);
        noFlow("one more brought than taken", 100, -99, 1000, false);
        noFlow("all curtailed by the plant", 100, 0, 0, true);
        noFlow("all curtailed by the plant, but what is taken too", 100, -30, 0, true);
        noFlow("nothing nominated", 0, 0, 1000, true);
        noFlow("a single unit", 1, 0, 1000, false);
        noFlow("as much taken as brought", -90, 90, 1000, true);
        noFlow("one more taken than brought", -90, 89, 1000, false);
        noFlow("all that is taken curtailed by the plant", -90, 0, 0, true);
        noFlow("all that is taken curtailed, but what is brought too", -90, 30, 0, true);
        noFlow("a single unit out", -1, 0, 1000, false);
        Gasvault v = turns(50, -50, 1);
        v.nominate(0, 10, 50);
        v.pass(2);
        Check.same("out that was turned down does not hinder in", v.flow(0), 50);
        Gasvault full = Scenes.wide();
        full.customer(100, 1000, 1000, 0);
        full.nominate(0, 2, 100);
        full.nominate(0, 7, 50);
        full.nominate(0, 8, -20);
        full.pass(8);
        Check.same("one of which step 1 left nothing", full.flow(0), -20);
    }

    /** In the hour 7 two nominate so much, and the wells are so strong; in the hour 8 the one is to turn, or not. */
    private static void noFlow(String what, int one, int other, int strength, boolean isFree) {
        for (int then : new int[] {-10, 10}) {
            Gasvault v = Scenes.holding(1000, 1000, 1000, 200);
            v.transfer(1, 0, 100);
            v.nominate(0, 7, one);
            v.nominate(1, 7, other);
            v.nominate(0, 8, then);
            v.pass(2);
            v.wells(0, 100, strength);
            v.pass(1);
            v.wells(0, 100, 1000);
            boolean goes = isFree || one + other > 0 == then > 0;
            Check.same(what + ", then " + then, v.flow(0), goes ? then : 0);
            Check.same(what + ", then " + then + ", why", v.why(0), goes ? 0 : 3);
        }
    }

    /** Rates in and out of 30, 0, 50, 20 and 100: a pressure of 50, of 0 to 100, in each. */
    private static Gasvault five() {
        Gasvault v = new Gasvault();
        int[] strengths = {6, 0, 10, 4, 20};
        for (int i = 0; i < 5; i++) {
            v.store(i % 3, 1000, 500, 0, 100, i % 3 == LAYER ? 1000 : 50);
            v.wells(i, 10, strengths[i]);
        }
        v.customer(100000, 10000, 10000, 0);
        return v;
    }

    @Says("What it can do is the sum of the rates of all stores in that direction, as they are as the hour begins,")
    private static void sumOfAllRates() {
        for (int units : new int[] {199, 200, 201}) {
            Gasvault v = five();
            v.nominate(0, 2, units);
            v.pass(2);
            Check.same(units + ", flow", v.flow(0), Math.min(200, units));
            Check.same(units + ", why", v.why(0), units > 200 ? 3 : 0);
        }
        Gasvault full = new Gasvault();
        full.store(FIELD, 100, 99, 0, 100, 99);
        full.wells(0, 100, 1000);
        full.customer(1000, 1000, 1000, 0);
        full.nominate(0, 2, 50);
        full.pass(2);
        full.leak(0, 30);
        Check.same("1 fits as the hour begins", full.flow(0), 1);
        full.pass(1);
        Check.same("the leak of the hour comes after it", full.ofStore(0, 0), 70);
        Gasvault none = new Gasvault();
        none.customer(1000, 1000, 1000, 0);
        none.nominate(0, 2, 1);
        none.pass(2);
        Check.same("without stores", none.flow(0), 0);
        Check.same("without stores, why", none.why(0), 3);
        twoThatOnlyOneFills();
    }

    /** Store 0 is full, store 1 empty: in counts what store 1 does alone, out what store 0 does alone. */
    private static void twoThatOnlyOneFills() {
        for (int units : new int[] {39, 40, 41}) {
            Gasvault v = new Gasvault();
            v.store(CAVERN, 100, 100, 0, 100, 0);
            v.store(CAVERN, 100, 0, 0, 100, 0);
            v.wells(0, 1, 30);
            v.wells(1, 1, 40);
            v.customer(1000, 1000, 1000, 0);
            v.nominate(0, 2, units);
            v.pass(2);
            Check.same(units + ", the full one does nothing", v.flow(0), Math.min(40, units));
            v.pass(1);
            Check.same(units + ", gas of the full one", v.ofStore(0, 0), 100);
        }
    }

    // ---- step 4

    @Says({"goes into the stores, or out of them, by rising numbers, each as far as its rate goes, as it was as the hour"
            + " began;", "A set of things is gone through by rising numbers, if nothing else is told."})
    private static void storesByRisingNumbers() {
        int[] rates = {30, 0, 50, 20, 100};
        for (int units : new int[] {0, 1, 29, 30, 31, 79, 80, 81, 99, 100, 101, 199, 200}) {
            Gasvault v = five();
            v.nominate(0, 2, units);
            v.pass(3);
            int left = units;
            for (int i = 0; i < 5; i++) {
                int part = Math.min(left, rates[i]);
                left -= part;
                Check.same(units + " in, store " + i, v.ofStore(i, 0), 500 + part);
            }
        }
        for (int units : new int[] {0, 1, 30, 31, 32, 85, 86, 87, 105, 106, 107, 200}) {
            Gasvault v = five();
            v.nominate(0, 2, 200);
            v.nominate(0, 5, -units);
            v.pass(5);
            int left = units;
            for (int i = 0; i < 5; i++) {
                Check.same(units + " out, gas of store " + i, v.ofStore(i, 0), 500 + rates[i]);
                Check.same(units + " out, rate of store " + i, v.rate(i, false), OUT[i]);
            }
            v.pass(1);
            for (int i = 0; i < 5; i++) {
                int part = Math.min(left, OUT[i]);
                left -= part;
                Check.same(units + " out, store " + i, v.ofStore(i, 0), 500 + rates[i] - part);
            }
        }
    }

    /** The rates out of five() when 200 came in: pressures of 53, 50, 55, 52 and 60. */
    private static final int[] OUT = {31, 0, 55, 20, 120};

    // ---- step 5

    private static Gasvault leaking(int kind, int gas, int least, int mark, int leak) {
        Gasvault v = new Gasvault();
        v.store(kind, 100, gas, least, 1000, mark);
        v.leak(0, leak);
        return v;
    }

    @Says("Of each store as much is lost as its leak tells, as far as there is gas, below its least gas too;")
    private static void leaksAsFarAsThereIsGas() {
        int[][] due = {{60, 50, 0, 60}, {60, 50, 9, 51}, {60, 50, 10, 50}, {60, 50, 11, 49}, {60, 50, 59, 1},
                {60, 50, 60, 0}, {60, 50, 61, 0}, {60, 50, 1000, 0}, {0, 0, 0, 0}, {0, 0, 1, 0}, {0, 0, 1000, 0},
                {1000, 1000, 1000, 0}, {1000, 1000, 999, 1}, {1, 0, 1, 0}};
        for (int kind = FIELD; kind <= LAYER; kind++) {
            for (int[] row : due) {
                Gasvault v = leaking(kind, row[0], row[1], kind == LAYER ? 1000000 : 0, row[2]);
                v.pass(1);
                String what = "a leak of " + row[2] + " of " + row[0];
                Check.same(what + ", gas", v.ofStore(0, 0), row[3]);
                Check.same(what + ", lost", v.of(3), row[0] - row[3]);
                Check.same(what + ", heat", v.ofStore(0, 4), row[3] * 10000L);
                v.pass(1);
                Check.same(what + ", in two hours", v.ofStore(0, 0), Math.max(0, row[3] - row[2]));
            }
        }
    }

    @Says("and of a LAYER what is above its mark then.")
    private static void layersSpillAboveTheMark() {
        int[][] due = {{80, 81, 0, 80}, {80, 80, 0, 80}, {80, 79, 0, 79}, {80, 1, 0, 1}, {80, 0, 0, 0},
                {80, 77, 3, 77}, {80, 76, 3, 76}, {80, 78, 3, 77}, {80, 0, 80, 0}, {0, 0, 0, 0}, {1, 0, 0, 0}};
        for (int[] row : due) {
            Gasvault v = leaking(LAYER, row[0], 0, row[1], row[2]);
            v.pass(1);
            String what = row[0] + " with a mark of " + row[1] + " and a leak of " + row[2];
            Check.same(what + ", gas", v.ofStore(0, 0), row[3]);
            Check.same(what + ", lost", v.of(3), row[0] - row[3]);
            for (int kind = FIELD; kind <= CAVERN; kind++) {
                Gasvault w = leaking(kind, row[0], 0, row[1], row[2]);
                w.pass(1);
                Check.same(what + ", of another kind", w.ofStore(0, 0), row[0] - row[2]);
            }
        }
        Gasvault v = leaking(LAYER, 80, 0, 80, 0);
        v.wells(0, 100, 1000);
        v.customer(100, 100, 100, 0);
        v.nominate(0, 2, 5);
        v.pass(3);
        Check.same("what came in the hour is above it", v.ofStore(0, 0), 80);
        Check.same("and lost in it", v.of(3), 5);
        Check.same("but somebody's", v.ofCustomer(0, 0), 5);
    }

    // ---- to curtail

    /** Six with 10 each; for all amounts: those of rank 3 first, 4 ahead of 1, and so on. */
    @Says({"from those with the greatest rank on, of one rank from the highest number on, each as far as it goes, until"
            + " it is enough."})
    private static void curtailsFromTheGreatestRankOn() {
        int[] ranks = {0, 3, 1, 1, 3, 0};
        int[] order = {4, 1, 3, 2, 5, 0};
        for (int plant = 0; plant <= 60; plant++) {
            Gasvault in = new Gasvault();
            in.store(LAYER, 1000, 0, 0, 100, 1000000);
            in.wells(0, 1, plant);
            Gasvault out = Scenes.wide();
            for (int i = 0; i < 6; i++) {
                in.customer(100, 100, 100, ranks[i]);
                in.nominate(i, 2, 10);
                out.customer(20, 20, 20, ranks[i]);
                out.nominate(i, 2, 10);
                out.nominate(i, 5, -10);
            }
            out.pass(3);
            out.wells(0, 0, 0);
            out.store(CAVERN, 1000, 1000, 0, 100, 0);
            out.wells(1, 1, plant);
            in.pass(2);
            out.pass(2);
            int left = 60 - plant;
            for (int i : order) {
                int cut = Math.min(10, left);
                left -= cut;
                Check.same("in, " + plant + ", flow of " + i, in.flow(i), 10 - cut);
                Check.same("in, " + plant + ", why of " + i, in.why(i), cut > 0 ? 3 : 0);
                Check.same("out, " + plant + ", flow of " + i, out.flow(i), cut - 10);
                Check.same("out, " + plant + ", why of " + i, out.why(i), cut > 0 ? 3 : 0);
            }
        }
    }

    // ---- promise 12

    @Says(promise = 12, value = {"`hours`: 1 to 240", "Throws `IllegalArgumentException` if hours is out of range"})
    private static void hoursToPass() {
        Check.range("hours", 1, 240, Scenes::busy, Gasvault::pass);
        Check.range("hours", 1, 240, Gasvault::new, Gasvault::pass);
        Check.same("1", new Gasvault().pass(1), 1);
        Check.same("240", new Gasvault().pass(240), 240);
        Gasvault many = Scenes.busy();
        many.pass(240);
        Gasvault single = Scenes.busy();
        for (int i = 0; i < 240; i++) {
            single.pass(1);
        }
        Check.same("240 at once or one by one", Look.now(many), Look.now(single));
    }

    @Says(promise = 12, value = "Throws `IllegalStateException` if it would be above 9900")
    private static void neverAboveTheLastHour() {
        for (int left : new int[] {0, 1, 2, 23, 239}) {
            Check.refused("one more than " + left + " left", Check.STATE, () -> Scenes.late(left),
                    v -> v.pass(left + 1));
            Check.refused("240 with " + left + " left", Check.STATE, () -> Scenes.late(left), v -> v.pass(240));
            Check.refused("241 with " + left + " left", Check.ARGUMENT, () -> Scenes.late(left), v -> v.pass(241));
            Check.refused("0 with " + left + " left", Check.ARGUMENT, () -> Scenes.late(left), v -> v.pass(0));
            if (left > 0) {
                Check.same("all of " + left, Scenes.late(left).pass(left), 9900);
            }
        }
        Check.same("240 of 240", Scenes.late(240).pass(240), 9900);
    }

    // ---- promises 18 and 19

    @Says(promise = {18, 19}, value = {"`customer`: the number of a customer",
            "Throws `IndexOutOfBoundsException` if there is no such customer"})
    private static void ofACustomer() {
        Check.onCustomers(Gasvault::flow);
        Check.onCustomers(Gasvault::why);
    }

    @Says(promise = 18, value = "Returns what a customer would bring in this hour, or, below 0, take, if it went by now.")
    private static void flowAsItGoesBy() {
        for (int units = -2; units <= 2; units++) {
            Gasvault v = nominates(150, units);
            Check.same("flow", v.flow(1), units);
            Check.same("asked twice", v.flow(1), units);
            v.pass(1);
            Check.same("as it goes by", v.ofCustomer(1, 0), 150 + units);
        }
        Gasvault v = nominates(150, 2);
        v.nominate(1, 9, 5);
        Check.same("not of a later hour", v.flow(1), 2);
        Check.same("nor of another customer", v.flow(0), 0);
    }

    /** A rate out of 31, an inventory of 150; a law that keeps 130 or 150 or none in; the plant does 10 or all. */
    @Says(promise = 19, value = {"a customer nominated for this hour would be made less first, if it went by now.",
            "Returns the step; 0 for none."})
    private static void firstStepThatMadeItLess() {
        first("by none", -31, 0, 10000, 0);
        first("by step 1", -32, 0, 10000, 1);
        first("by step 2", -31, 120, 10000, 2);
        first("by step 2, just not", -31, 119, 10000, 0);
        first("by step 3", -31, 0, 10, 3);
        first("by steps 1 and 2", -32, 130, 10000, 1);
        first("by steps 1 and 3", -32, 0, 10, 1);
        first("by steps 2 and 3", -31, 130, 10, 2);
        first("by all of them", -32, 130, 10, 1);
        first("by step 2 to nothing, none is left for step 3", -31, 150, 0, 2);
        first("by step 3 to nothing", -31, 0, 0, 3);
        first("nothing nominated", 0, 10000000, 0, 0);
        first("bringing, by step 1", 72, 10000000, 10000, 1);
        first("bringing, by step 3", 71, 10000000, 10, 3);
        first("bringing, by none", 71, 10000000, 10000, 0);
    }

    private static void first(String what, int units, int law, int plant, int step) {
        Gasvault v = Scenes.holding(300, 71, 31, 150);
        v.nominate(1, 7, units);
        v.law(7, 7, law);
        v.wells(0, 0, 0);
        v.store(CAVERN, 1000, 5000, 0, 1000, 0);
        v.wells(1, 10, plant / 50);
        v.store(CAVERN, 1000, 5000, 0, 1000, 0);
        v.wells(2, plant == 10 ? 1 : 0, 2);
        v.pass(2);
        Check.same(what, v.why(1), step);
        Check.same(what + ", asked twice", v.why(1), step);
    }
}
