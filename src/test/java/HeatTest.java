/** Promise 6: heat, and how heat comes, goes and is mixed. */
public final class HeatTest {
    public static void main(String[] args) {
        answersTheOneBefore();
        comesAsItIsToldThen();
        goesByItself();
        bounds();
        Check.end();
    }

    private static void answersTheOneBefore() {
        Gasvault v = new Gasvault();
        Check.same("at first", v.heat(3), 10000);
        Check.same("told before", v.heat(20000), 3);
        Check.same("told before", v.heat(0), 20000);
        Check.same("told before", v.heat(0), 0);
    }

    private static void comesAsItIsToldThen() {
        Gasvault v = new Gasvault();
        v.heat(100);
        v.store(Gasvault.LAYER, 1000, 10, 0, 1000, 1000000);
        v.wells(0, 100, 100);
        v.customer(1000, 500, 500, 0);
        v.nominate(0, 2, 5);
        v.nominate(0, 3, 5);
        v.pass(2);
        v.heat(60);
        v.pass(1);
        Check.same("10 of 100 and 5 of 60", v.ofStore(0, 4), 1300);
        Check.same("mixed", v.mix(0), 86);
        v.heat(0);
        v.pass(1);
        Check.same("5 of 0", v.ofStore(0, 4), 1300);
        Check.same("mixed", v.mix(0), 65);
    }

    /** 6 units with a heat of 33: 1 that goes takes 5 of it (33 / 6), 1 more then 5 (28 / 5); both at once take 11. */
    private static Gasvault sixMixed(int kind, int greatest, int mark) {
        Gasvault v = new Gasvault();
        v.heat(10);
        v.store(kind, 100, 3, 0, greatest, mark);
        v.wells(0, 100, 1000);
        v.customer(1000, 500, 500, 0);
        v.heat(1);
        v.nominate(0, 2, 3);
        v.nominate(0, 5, -1);
        v.nominate(0, 23, -1);
        v.pass(5);
        Check.same("33 in 6", v.ofStore(0, 0), 6);
        Check.same("33 in 6", v.ofStore(0, 4), 33);
        return v;
    }

    private static void goesByItself() {
        Gasvault out = sixMixed(Gasvault.FIELD, 1000, 6);
        out.leak(0, 1);
        out.pass(1);
        Check.same("what goes out and a leak: gas", out.ofStore(0, 0), 4);
        Check.same("what goes out and a leak: heat", out.ofStore(0, 4), 23);
        Check.same("mix, cut", out.mix(0), 5);
        atADaysEnd();
        aboveTheMark();
    }

    /** The cavern of 100 is 55 after the day's end, which holds 4 of 5 units (8 * 55 / 100). */
    private static void atADaysEnd() {
        Gasvault v = sixMixed(Gasvault.CAVERN, 8, 45005);
        v.nominate(0, 23, 0);
        v.pass(1);
        Check.same("1 goes out: gas", v.ofStore(0, 0), 5);
        Check.same("1 goes out: heat", v.ofStore(0, 4), 28);
        v.pass(17);
        Check.same("the last hour of the day", v.of(0), 23);
        Check.same("nothing yet", v.ofStore(0, 0), 5);
        v.pass(1);
        Check.same("volume then", v.ofStore(0, 2), 55);
        Check.same("1 is lost: gas", v.ofStore(0, 0), 4);
        Check.same("1 is lost: heat", v.ofStore(0, 4), 23);
        Check.same("lost", v.of(3), 1);
        Gasvault w = sixMixed(Gasvault.CAVERN, 8, 45004);
        w.nominate(0, 8, 1);
        w.pass(18);
        Check.same("5 and 1 of 1: gas", w.ofStore(0, 0), 6);
        Check.same("5 and 1 of 1: heat", w.ofStore(0, 4), 29);
        w.pass(1);
        Check.same("24 in 5 when 1 is out (29 / 6 = 4), and 20 in 4", w.ofStore(0, 4), 25 - 5);
        Check.same("4 are left", w.ofStore(0, 0), 4);
    }

    /** 62 in 8: the leak of 1 takes 7 (62 / 8), the 1 above the mark then 7 (55 / 7); both at once would take 15. */
    private static void aboveTheMark() {
        Gasvault v = new Gasvault();
        v.heat(10);
        v.store(Gasvault.LAYER, 100, 6, 0, 1000, 6);
        v.wells(0, 100, 1000);
        v.customer(1000, 500, 500, 0);
        v.heat(1);
        v.nominate(0, 2, 2);
        v.pass(2);
        v.leak(0, 1);
        v.pass(1);
        Check.same("a leak and the mark: gas", v.ofStore(0, 0), 6);
        Check.same("a leak and the mark: heat", v.ofStore(0, 4), 48);
        Check.same("a leak and the mark: lost", v.of(3), 2);
        v.pass(1);
        Check.same("below the mark: gas", v.ofStore(0, 0), 5);
        Check.same("below the mark: heat", v.ofStore(0, 4), 40);
    }

    private static void bounds() {
        Check.taken("least heat", Scenes::busy, v -> v.heat(0));
        Check.taken("greatest heat", Scenes::busy, v -> v.heat(20000));
        Check.refused("heat -1", Check.ARGUMENT, Scenes::busy, v -> v.heat(-1));
        Check.refused("heat 20001", Check.ARGUMENT, Scenes::busy, v -> v.heat(20001));
        Check.refused("heat greatest int", Check.ARGUMENT, Scenes::busy, v -> v.heat(Integer.MAX_VALUE));
        Check.refused("heat least int", Check.ARGUMENT, Scenes::busy, v -> v.heat(Integer.MIN_VALUE));
    }
}
