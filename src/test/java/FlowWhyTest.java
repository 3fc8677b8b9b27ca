/** Promises 18 and 19: flow and why. */
public final class FlowWhyTest {
    public static void main(String[] args) {
        asItGoesByNow();
        firstStepCounts();
        changesNothing();
        withoutStores();
        numbers();
        Check.end();
    }

    private static void asItGoesByNow() {
        Gasvault v = Scenes.holding(300, 71, 31, 150);
        v.nominate(1, 7, 40);
        Check.same("nothing nominated for this hour", v.flow(1), 0);
        Check.same("nor made less", v.why(1), 0);
        v.pass(2);
        Check.same("brings", v.flow(1), 40);
        Check.same("as it is", v.why(1), 0);
        v.wells(0, 0, 0);
        Check.same("without wells", v.flow(1), 0);
        Check.same("by the plant", v.why(1), 3);
        v.wells(0, 100, 1000);
        v.transfer(1, 0, 20);
        Check.same("with less, the same", v.flow(1), 40);
        v.transfer(0, 1, 20);
        v.nominate(0, 10, -30);
        v.pass(3);
        Check.same("who has nothing", v.flow(0), 0);
        Check.same("by its inventory", v.why(0), 1);
        v.transfer(1, 0, 100);
        Check.same("who got some", v.flow(0), -30);
        Check.same("as it is", v.why(0), 0);
        v.law(10, 10, 170);
        Check.same("a law told now", v.flow(0), -20);
        Check.same("by the law", v.why(0), 2);
        v.law(10, 10, 0);
        Check.same("another law told now", v.flow(0), -30);
        Check.same("as it is", v.why(0), 0);
    }

    /** Rate out 31; a law that lets 20 or 0 go; a plant that does 10 or none. */
    private static void firstStepCounts() {
        first("by none", -10, 0, 1000, -10, 0);
        first("by the rate", -32, 0, 1000, -31, 1);
        first("by the law", -31, 170, 1000, -20, 2);
        first("by the plant", -31, 0, 10, -10, 3);
        first("by the rate, then by the law", -40, 170, 1000, -20, 1);
        first("by the rate, then by the plant", -40, 0, 10, -10, 1);
        first("by the law, then by the plant", -31, 170, 10, -10, 2);
        first("by all of them", -40, 170, 10, -10, 1);
        first("by the law, to nothing", -31, 190, 0, 0, 2);
        first("by the plant, to nothing", -31, 0, 0, 0, 3);
        first("by the plant, bringing", 31, 0, 10, 10, 3);
        first("by the rate, bringing", 72, 0, 1000, 71, 1);
        first("by the rate, then by the plant, bringing", 72, 0, 10, 10, 1);
        first("no law for who brings", 31, 1000, 1000, 31, 0);
    }

    private static void first(String what, int units, int law, int plant, int flow, int why) {
        Gasvault v = Scenes.holding(300, 71, 31, 190);
        v.nominate(1, 7, units);
        v.law(7, 7, law);
        v.wells(0, 0, 0);
        v.store(Gasvault.CAVERN, 1000, 5000, 0, 1000, 0);
        v.wells(1, plant > 0 ? 1 : 0, Math.min(1000, plant / 5));
        v.pass(2);
        Check.same(what + ", flow", v.flow(1), flow);
        Check.same(what + ", why", v.why(1), why);
        v.pass(1);
        Check.same(what + ", inventory", v.ofCustomer(1, 0), 190 + flow);
        int wish = Math.max(-31, Math.min(71, units));
        Check.same(what + ", curtailed by steps 2 and 3", v.ofCustomer(1, 5), Math.abs(wish - flow));
    }

    private static void changesNothing() {
        for (int look = 0; look < Look.KINDS; look++) {
            Gasvault asked = Scenes.full();
            asked.pass(2);
            for (int i = 0; i < 6; i++) {
                asked.flow(i);
                asked.why(i);
                asked.worth(i, 3);
                asked.worthAnew(i, 3);
            }
            Gasvault other = Scenes.full();
            other.pass(2);
            Check.same("asked or not, look " + look, Look.ahead(asked, look), Look.ahead(other, look));
        }
    }

    private static void withoutStores() {
        Gasvault v = new Gasvault();
        v.customer(100, 50, 50, 0);
        v.customer(100, 50, 50, 0);
        v.nominate(0, 2, 30);
        v.nominate(1, 2, -30);
        v.pass(2);
        Check.same("no store to bring to", v.flow(0), 0);
        Check.same("by the plant", v.why(0), 3);
        Check.same("nothing to take", v.flow(1), 0);
        Check.same("by the inventory", v.why(1), 1);
        v.pass(1);
        Check.same("curtailed", v.ofCustomer(0, 5), 30);
        Check.same("not by step 1", v.ofCustomer(1, 5), 0);
        v.nominate(1, 5, 1);
        v.pass(2);
        Check.same("not a single unit", v.flow(1), 0);
        Check.same("why not a single unit", v.why(1), 3);
    }

    private static void numbers() {
        int[] wrongCustomers = {-1, 5, 6, Integer.MAX_VALUE, Integer.MIN_VALUE};
        for (int c : wrongCustomers) {
            Check.refused("flow of " + c, Check.INDEX, Scenes::busy, v -> v.flow(c));
            Check.refused("why of " + c, Check.INDEX, Scenes::busy, v -> v.why(c));
        }
        Check.refused("flow of 6 of six", Check.INDEX, Scenes::full, v -> v.flow(6));
        Check.refused("why of 6 of six", Check.INDEX, Scenes::full, v -> v.why(6));
        Check.taken("flow of the last one", Scenes::full, v -> v.flow(5));
        Check.taken("why of the last one", Scenes::full, v -> v.why(5));
    }
}
