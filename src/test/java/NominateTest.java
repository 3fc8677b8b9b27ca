/** Promise 8: nominate. */
public final class NominateTest {
    public static void main(String[] args) {
        answersWhatWasBefore();
        eachHourByItself();
        goesByInItsHourAlone();
        reach();
        bounds();
        Check.end();
    }

    private static void answersWhatWasBefore() {
        Gasvault v = Scenes.holding(100, 10, 10, 0);
        Check.same("0 at first", v.nominate(1, 7, 5), 0);
        Check.same("the other customer", v.nominate(0, 7, -3), 0);
        Check.same("before", v.nominate(1, 7, -1000000), 5);
        Check.same("before", v.nominate(1, 7, 1000000), -1000000);
        Check.same("before", v.nominate(1, 7, 0), 1000000);
        Check.same("before", v.nominate(1, 7, 0), 0);
        Check.same("before, of the other one", v.nominate(0, 7, 0), -3);
    }

    private static void eachHourByItself() {
        Gasvault v = Scenes.holding(100, 10, 10, 0);
        for (int hour = 7; hour <= 65; hour++) {
            Check.same("of hour " + hour, v.nominate(0, hour, hour), 0);
            Check.same("of hour " + hour, v.nominate(1, hour, -hour), 0);
        }
        for (int hour = 7; hour <= 65; hour++) {
            Check.same("before, of hour " + hour, v.nominate(0, hour, 0), hour);
            Check.same("before, of hour " + hour, v.nominate(1, hour, 0), -hour);
        }
    }

    /** Nominated for the farthest hour, it stays when others go by, and comes in that hour and no other one. */
    private static void goesByInItsHourAlone() {
        for (int now = 0; now < 130; now += 13) {
            Gasvault v = Scenes.wide();
            v.customer(100000, 1000, 1000, 0);
            if (now > 0) {
                v.pass(now);
            }
            v.nominate(0, now + 60, 7);
            v.pass(59);
            Check.same("not yet", v.ofCustomer(0, 0), 0);
            v.pass(1);
            Check.same("still not", v.ofCustomer(0, 0), 0);
            Check.same("would come now", v.flow(0), 7);
            v.pass(1);
            Check.same("now", v.ofCustomer(0, 0), 7);
            Check.same("no more nominated", v.flow(0), 0);
            v.pass(140);
            Check.same("never again", v.ofCustomer(0, 0), 7);
        }
    }

    private static void reach() {
        Check.refused("this hour", Check.ARGUMENT, Scenes::busy, v -> v.nominate(0, 30, 5));
        Check.refused("the next hour", Check.ARGUMENT, Scenes::busy, v -> v.nominate(0, 31, 5));
        Check.taken("in two hours", Scenes::busy, v -> v.nominate(0, 32, 5));
        Check.taken("in 60 hours", Scenes::busy, v -> v.nominate(0, 90, 5));
        Check.refused("in 61 hours", Check.ARGUMENT, Scenes::busy, v -> v.nominate(0, 91, 5));
        Check.refused("in 64 hours", Check.ARGUMENT, Scenes::busy, v -> v.nominate(0, 94, 5));
        Check.refused("an hour gone by", Check.ARGUMENT, Scenes::busy, v -> v.nominate(0, 29, 5));
        Check.refused("the hour -1", Check.ARGUMENT, NominateTest::atTheBeginning, v -> v.nominate(0, -1, 5));
        Check.refused("the hour 1 at 0", Check.ARGUMENT, NominateTest::atTheBeginning, v -> v.nominate(0, 1, 5));
        Check.taken("the hour 2 at 0", NominateTest::atTheBeginning, v -> v.nominate(0, 2, 5));
        Check.taken("the hour 60 at 0", NominateTest::atTheBeginning, v -> v.nominate(0, 60, 5));
        Check.refused("the hour 61 at 0", Check.ARGUMENT, NominateTest::atTheBeginning, v -> v.nominate(0, 61, 5));
        Check.refused("the greatest hour", Check.ARGUMENT, Scenes::busy, v -> v.nominate(0, Integer.MAX_VALUE, 5));
        Check.refused("the least hour", Check.ARGUMENT, Scenes::busy, v -> v.nominate(0, Integer.MIN_VALUE, 5));
    }

    private static Gasvault atTheBeginning() {
        Gasvault v = Scenes.wide();
        v.customer(100, 10, 10, 0);
        return v;
    }

    private static void bounds() {
        Check.taken("most to bring", Scenes::busy, v -> v.nominate(4, 40, 1000000));
        Check.taken("most to take", Scenes::busy, v -> v.nominate(4, 40, -1000000));
        Check.refused("units 1000001", Check.ARGUMENT, Scenes::busy, v -> v.nominate(0, 40, 1000001));
        Check.refused("units -1000001", Check.ARGUMENT, Scenes::busy, v -> v.nominate(0, 40, -1000001));
        Check.refused("greatest int", Check.ARGUMENT, Scenes::busy, v -> v.nominate(0, 40, Integer.MAX_VALUE));
        Check.refused("least int", Check.ARGUMENT, Scenes::busy, v -> v.nominate(0, 40, Integer.MIN_VALUE));
        Check.refused("customer -1", Check.INDEX, Scenes::busy, v -> v.nominate(-1, 40, 5));
        Check.refused("customer 5", Check.INDEX, Scenes::busy, v -> v.nominate(5, 40, 5));
        Check.refused("customer 6 of six", Check.INDEX, Scenes::full, v -> v.nominate(6, 40, 5));
        Check.refused("customer 5 and the next hour", Check.INDEX, Scenes::busy, v -> v.nominate(5, 31, 5));
        Check.refused("customer 5, units 1000001", Check.INDEX, Scenes::busy, v -> v.nominate(5, 40, 1000001));
        Check.refused("customer least int", Check.INDEX, Scenes::busy, v -> v.nominate(Integer.MIN_VALUE, 1, 5));
    }
}
