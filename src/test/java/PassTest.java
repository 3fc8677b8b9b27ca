/** Promise 12: pass, with the steps 1, 3, 4 and 5 of an hour; day's ends are in DayTest, laws in LawTest. */
public final class PassTest {
    public static void main(String[] args) {
        hours();
        madeLessByRates();
        net();
        plantIsTooSmall();
        plantTurns();
        whatIsNoFlow();
        storesByRisingNumbers();
        ratesAsTheHourBegins();
        layersSpill();
        bounds();
        Check.end();
    }

    private static void hours() {
        Gasvault v = new Gasvault();
        Check.same("one hour", v.pass(1), 1);
        Check.same("more", v.pass(25), 26);
        Check.same("most", v.pass(240), 266);
        Check.same("the hour", v.of(0), 266);
    }

    /** Customer 1 nominates so much in the hour 7, having so much of a volume of 300; rates 71 in and 31 out. */
    private static void madeLess(int inventory, int units, int flow) {
        Gasvault v = Scenes.holding(300, 71, 31, inventory);
        v.nominate(1, 7, units);
        v.pass(2);
        Check.same(inventory + " nominates " + units, v.flow(1), flow);
        Check.same(inventory + " nominates " + units + ", why", v.why(1), flow == units ? 0 : 1);
        v.pass(1);
        Check.same(inventory + " nominates " + units + ", inventory", v.ofCustomer(1, 0), inventory + flow);
        Check.same(inventory + " nominates " + units + ", brought", v.ofCustomer(1, 3), Math.max(0, flow));
        Check.same(inventory + " nominates " + units + ", taken", v.ofCustomer(1, 4), Math.max(0, -flow));
        Check.same(inventory + " nominates " + units + ", curtailed", v.ofCustomer(1, 5), 0);
    }

    private static void madeLessByRates() {
        madeLess(0, 70, 70);
        madeLess(0, 71, 71);
        madeLess(0, 72, 71);
        madeLess(0, 1000000, 71);
        madeLess(0, 0, 0);
        madeLess(0, -1, 0);
        madeLess(200, 71, 71);
        madeLess(201, 35, 35);
        madeLess(201, 36, 35);
        madeLess(265, 35, 35);
        madeLess(266, 35, 34);
        madeLess(299, 5, 1);
        madeLess(300, 5, 0);
        madeLess(300, 0, 0);
        madeLess(300, -31, -31);
        madeLess(300, -32, -31);
        madeLess(300, -1000000, -31);
        madeLess(100, -31, -31);
        madeLess(99, -16, -15);
        madeLess(99, -15, -15);
        madeLess(15, -20, -15);
        madeLess(14, -20, -14);
        madeLess(14, -14, -14);
        madeLess(1, -2, -1);
    }

    /** A layer of 1000 with a pressure of 500, 10 wells of 10: 500 an hour in and out. */
    private static Gasvault narrow() {
        Gasvault v = new Gasvault();
        v.store(Gasvault.LAYER, 1000, 5000, 0, 1000, 1000000);
        v.wells(0, 10, 10);
        return v;
    }

    private static void net() {
        Gasvault v = narrow();
        v.customer(1000, 1000, 1000, 0);
        v.customer(1000, 1000, 1000, 0);
        v.nominate(0, 2, 300);
        v.nominate(0, 5, -200);
        v.nominate(1, 5, 700);
        v.nominate(0, 8, -100);
        v.nominate(1, 8, 40);
        v.pass(5);
        Check.same("came 300", v.of(1), 5300);
        v.pass(1);
        Check.same("700 brought less 200 taken", v.ofStore(0, 0), 5770);
        Check.same("470 of the 500: pressure 530 at the hour's begin", v.ofCustomer(1, 3), 670);
        Check.same("curtailed", v.ofCustomer(1, 5), 30);
        Check.same("taken", v.ofCustomer(0, 4), 200);
        Check.same("came, net", v.of(1), 5770);
        Check.same("went out, net", v.of(2), 0);
        v.pass(3);
        Check.same("100 taken less 40 brought", v.ofStore(0, 0), 5710);
        Check.same("came, still", v.of(1), 5770);
        Check.same("went out", v.of(2), 60);
        Check.same("brought", v.ofCustomer(1, 3), 710);
        Check.same("taken", v.ofCustomer(0, 4), 300);
        Check.same("all inventories", v.of(5), 710 - 300 + 300);
    }

    /** Ranks 1, 2, 2, each may bring or take 400; the plant does 500. */
    private static Gasvault three() {
        Gasvault v = narrow();
        v.customer(4000, 2000, 2000, 1);
        v.customer(4000, 2000, 2000, 2);
        v.customer(4000, 2000, 2000, 2);
        return v;
    }

    private static void plantIsTooSmall() {
        tooMuch("just so", 200, 200, 100, 200, 200, 100);
        tooMuch("by one", 200, 200, 101, 200, 200, 100);
        tooMuch("by all of the last one", 200, 300, 100, 200, 300, 0);
        tooMuch("by more", 200, 301, 100, 200, 300, 0);
        tooMuch("by all of both", 500, 300, 100, 500, 0, 0);
        tooMuch("by still more", 900, 300, 100, 500, 0, 0);
    }

    private static void tooMuch(String what, int a, int b, int c, int da, int db, int dc) {
        int[] units = {a, b, c};
        int[] due = {da, db, dc};
        Gasvault in = three();
        for (int i = 0; i < 3; i++) {
            in.nominate(i, 2, units[i]);
        }
        in.pass(2);
        seen(what + ", in", in, units, due, 1);
        Gasvault out = three();
        out.store(Gasvault.LAYER, 100000, 0, 0, 1000, 1000000);
        out.wells(1, 100, 1000);
        for (int i = 0; i < 3; i++) {
            out.nominate(i, 2, 1500);
            out.nominate(i, 5, -units[i]);
        }
        out.pass(3);
        out.wells(0, 0, 0);
        out.wells(1, 0, 0);
        out.store(Gasvault.LAYER, 1000, 5000, 0, 1000, 1000000);
        out.wells(2, 10, 10);
        out.pass(2);
        seen(what + ", out", out, units, due, -1);
    }

    private static void seen(String what, Gasvault v, int[] units, int[] due, int sign) {
        for (int i = 0; i < 3; i++) {
            Check.same(what + ", flow " + i, v.flow(i), sign * due[i]);
            Check.same(what + ", why " + i, v.why(i), units[i] == due[i] ? 0 : 3);
        }
        v.pass(1);
        for (int i = 0; i < 3; i++) {
            Check.same(what + ", went by " + i, v.ofCustomer(i, sign > 0 ? 3 : 4), due[i]);
            Check.same(what + ", curtailed " + i, v.ofCustomer(i, 5), units[i] - due[i]);
        }
    }

    private static void plantTurns() {
        for (int after = 1; after <= 4; after++) {
            turns(50, -20, after);
            turns(-50, 20, after);
        }
        Gasvault v = Scenes.wide();
        v.customer(1000, 1000, 1000, 0);
        for (int hour = 2; hour < 8; hour++) {
            v.nominate(0, hour, 10);
        }
        v.pass(8);
        Check.same("on and on the same way", v.ofCustomer(0, 0), 60);
    }

    /** It flows in the hour 7, and is to flow the other way so many hours after, which it can from 3 on. */
    private static void turns(int units, int back, int after) {
        Gasvault v = Scenes.wide();
        v.customer(1000, 1000, 1000, 0);
        v.nominate(0, 2, 500);
        v.pass(5);
        v.nominate(0, 7, units);
        v.nominate(0, 7 + after, back);
        v.pass(3);
        Check.same("it flowed", v.ofCustomer(0, 0), 500 + units);
        if (after > 1) {
            v.pass(after - 1);
        }
        boolean can = after >= 3;
        String what = units + " and back after " + after;
        Check.same(what, v.flow(0), can ? back : 0);
        Check.same(what + ", why", v.why(0), can ? 0 : 3);
        v.pass(1);
        Check.same(what + ", curtailed", v.ofCustomer(0, 5), can ? 0 : 20);
        Check.same(what + ", inventory", v.ofCustomer(0, 0), 500 + units + (can ? back : 0));
    }

    private static void whatIsNoFlow() {
        Gasvault v = Scenes.wide();
        v.customer(1000, 1000, 1000, 0);
        v.customer(1000, 1000, 1000, 3);
        v.nominate(0, 2, 500);
        v.nominate(0, 6, -100);
        v.nominate(1, 6, 100);
        v.nominate(0, 7, 30);
        v.nominate(0, 8, -30);
        v.nominate(0, 9, -30);
        v.nominate(0, 10, -30);
        v.pass(7);
        Check.same("brought as much as taken", v.ofCustomer(1, 0), 100);
        Check.same("and taken", v.ofCustomer(0, 4), 100);
        Check.same("is no flow out", v.flow(0), 30);
        Check.same("nothing came", v.of(1), 500500);
        Check.same("nothing went out", v.of(2), 0);
        v.pass(1);
        Check.same("an hour after in", v.flow(0), 0);
        v.pass(1);
        Check.same("two hours after in", v.flow(0), 0);
        v.pass(1);
        Check.same("three hours after in, curtailed ones are no flow", v.flow(0), -30);
        turnedDownIsNoFlow();
    }

    /** While the plant cannot flow out, those who take get what others bring, and no more. */
    private static void turnedDownIsNoFlow() {
        Gasvault v = Scenes.wide();
        v.customer(1000, 1000, 1000, 0);
        v.customer(1000, 1000, 1000, 3);
        v.nominate(0, 2, 500);
        v.nominate(0, 3, -100);
        v.nominate(1, 3, 70);
        v.nominate(0, 4, 5);
        v.pass(3);
        Check.same("as much as is brought", v.flow(0), -70);
        Check.same("why", v.why(0), 3);
        Check.same("who brings", v.flow(1), 70);
        Check.same("why who brings", v.why(1), 0);
        v.pass(1);
        Check.same("curtailed", v.ofCustomer(0, 5), 30);
        Check.same("may flow in on", v.flow(0), 5);
        Gasvault w = Scenes.wide();
        w.customer(1000, 1000, 1000, 0);
        w.customer(1000, 1000, 1000, 3);
        w.nominate(0, 2, 500);
        w.nominate(0, 5, -100);
        w.nominate(0, 6, -40);
        w.nominate(1, 6, 90);
        w.pass(6);
        Check.same("brought as much as is taken", w.flow(1), 40);
        Check.same("why", w.why(1), 3);
        Check.same("who takes", w.flow(0), -40);
        Check.same("why who takes", w.why(0), 0);
    }

    /** Rates in 30, 0, 50, 20, 100 and the same out: a pressure of 50 of 0 to 100 each. */
    private static Gasvault five() {
        Gasvault v = new Gasvault();
        int[] strengths = {6, 0, 10, 4, 20};
        for (int i = 0; i < 5; i++) {
            v.store(i % 3, 1000, 500, 0, 100, i % 3 == 2 ? 1000 : 50);
            v.wells(i, 10, strengths[i]);
        }
        v.customer(1000, 1000, 1000, 0);
        v.customer(1000, 1000, 1000, 0);
        return v;
    }

    private static void storesByRisingNumbers() {
        int[] rates = {30, 0, 50, 20, 100};
        for (int units = 0; units <= 210; units += 10) {
            Gasvault in = five();
            in.nominate(0, 2, units);
            in.pass(3);
            int left = units;
            for (int i = 0; i < 5; i++) {
                int part = Math.min(left, rates[i]);
                left -= part;
                Check.same(units + " in, store " + i, in.ofStore(i, 0), 500 + part);
                Check.same(units + " in, heat of store " + i, in.ofStore(i, 4), (500 + part) * 10000L);
            }
            Check.same(units + " in, the rest is curtailed", in.ofCustomer(0, 5), left);
            Check.same(units + " in, brought", in.ofCustomer(0, 3), units - left);
            Check.same(units + " in, came", in.of(1), 2500 + units - left);
        }
        for (int units = 0; units <= 210; units += 15) {
            Gasvault out = five();
            out.nominate(0, 2, 200);
            out.pass(3);
            int[] gas = new int[5];
            int[] most = new int[5];
            for (int i = 0; i < 5; i++) {
                gas[i] = (int) out.ofStore(i, 0);
                most[i] = out.rate(i, false);
            }
            out.nominate(0, 5, -units);
            out.pass(3);
            int left = units < 200 ? units : 200;
            for (int i = 0; i < 5; i++) {
                int part = Math.min(left, most[i]);
                left -= part;
                Check.same(units + " out, store " + i, out.ofStore(i, 0), gas[i] - part);
            }
            Check.same(units + " out, went out", out.of(2), Math.min(units, 200) - left);
        }
    }

    /** The net of an hour goes by the rates at its begin: a leak in it comes after. */
    private static void ratesAsTheHourBegins() {
        Gasvault v = new Gasvault();
        v.store(Gasvault.FIELD, 100, 100, 0, 100, 100);
        v.wells(0, 100, 1000);
        v.customer(1000, 1000, 1000, 0);
        v.nominate(0, 2, 50);
        v.pass(2);
        v.leak(0, 30);
        Check.same("full as the hour begins", v.flow(0), 0);
        v.pass(1);
        Check.same("so nothing came", v.of(1), 100);
        Check.same("and 30 were lost", v.ofStore(0, 0), 70);
    }

    private static void layersSpill() {
        Gasvault v = new Gasvault();
        v.store(Gasvault.LAYER, 100, 80, 0, 100, 75);
        v.store(Gasvault.LAYER, 100, 80, 0, 100, 80);
        v.store(Gasvault.LAYER, 100, 80, 0, 100, 0);
        v.store(Gasvault.FIELD, 100, 80, 0, 100, 75);
        v.store(Gasvault.CAVERN, 100, 80, 0, 100, 75);
        v.leak(0, 3);
        v.pass(1);
        Check.same("above the mark after the leak", v.ofStore(0, 0), 75);
        Check.same("just at the mark", v.ofStore(1, 0), 80);
        Check.same("a mark of 0", v.ofStore(2, 0), 0);
        Check.same("a field does not", v.ofStore(3, 0), 80);
        Check.same("a cavern does not", v.ofStore(4, 0), 80);
        Check.same("lost", v.of(3), 85);
        v.pass(1);
        Check.same("below the mark", v.ofStore(0, 0), 72);
        Check.same("lost then", v.of(3), 88);
    }

    private static Gasvault late() {
        Gasvault v = Scenes.busy();
        for (int i = 0; i < 41; i++) {
            v.pass(240);
        }
        v.pass(29);
        return v;
    }

    private static void bounds() {
        Check.refused("0 hours", Check.ARGUMENT, Scenes::busy, v -> v.pass(0));
        Check.refused("-1 hours", Check.ARGUMENT, Scenes::busy, v -> v.pass(-1));
        Check.refused("241 hours", Check.ARGUMENT, Scenes::busy, v -> v.pass(241));
        Check.refused("greatest int", Check.ARGUMENT, Scenes::busy, v -> v.pass(Integer.MAX_VALUE));
        Check.refused("least int", Check.ARGUMENT, Scenes::busy, v -> v.pass(Integer.MIN_VALUE));
        Check.taken("240 hours", Scenes::busy, v -> v.pass(240));
        Check.same("late", late().of(0), 9899);
        Check.same("to the last hour", late().pass(1), 9900);
        Check.refused("above it by one", Check.STATE, PassTest::late, v -> v.pass(2));
        Check.refused("above it by much", Check.STATE, PassTest::late, v -> v.pass(240));
        Check.refused("above it, and 241", Check.ARGUMENT, PassTest::late, v -> v.pass(241));
        Gasvault v = late();
        v.pass(1);
        Check.same("none is left", Check.answer(v, x -> x.pass(1)), Check.STATE.getName());
        Check.same("a nomination still", v.nominate(0, 9960, 1), 0);
        Check.same("a law still", Check.answer(v, x -> x.law(9900, 10000, 1)), "20");
    }
}
