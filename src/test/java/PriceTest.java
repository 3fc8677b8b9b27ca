/** Promise 11: price. */
public final class PriceTest {
    public static void main(String[] args) {
        answersTheOneBefore();
        eachHourByItself();
        stayAsHoursGoBy();
        bounds();
        Check.end();
    }

    private static void answersTheOneBefore() {
        Gasvault v = new Gasvault();
        Check.same("0 at first", v.price(0, 17), 0);
        Check.same("before", v.price(0, -1000), 17);
        Check.same("before", v.price(0, 1000), -1000);
        Check.same("before", v.price(0, 0), 1000);
        Check.same("of another hour", v.price(1, 0), 0);
    }

    private static void eachHourByItself() {
        Gasvault v = new Gasvault();
        v.pass(9);
        for (int hour = 9; hour <= 69; hour++) {
            Check.same("of hour " + hour, v.price(hour, 3 * hour), 0);
        }
        for (int hour = 9; hour <= 69; hour++) {
            Check.same("before, of hour " + hour, v.price(hour, 0), 3 * hour);
        }
    }

    private static void stayAsHoursGoBy() {
        for (int now = 0; now < 130; now += 13) {
            Gasvault v = new Gasvault();
            if (now > 0) {
                v.pass(now);
            }
            v.price(now + 60, 5);
            v.price(now + 1, 9);
            v.pass(1);
            Check.same("now", v.price(now + 1, 9), 9);
            Check.same("told for farther on", v.price(now + 60, 5), 5);
            Check.same("of an hour come into reach", v.price(now + 61, 0), 0);
            v.pass(59);
            Check.same("now", v.price(now + 60, 5), 5);
            for (int hour = now + 61; hour <= now + 120; hour++) {
                Check.same("never told, " + hour, v.price(hour, 0), 0);
            }
            v.pass(61);
            for (int hour = now + 121; hour <= now + 181; hour++) {
                Check.same("never told, " + hour, v.price(hour, 0), 0);
            }
        }
    }

    private static void bounds() {
        Check.taken("now", Scenes::busy, v -> v.price(30, 5));
        Check.taken("in 60 hours", Scenes::busy, v -> v.price(90, 5));
        Check.taken("least price", Scenes::busy, v -> v.price(40, -1000));
        Check.taken("greatest price", Scenes::busy, v -> v.price(40, 1000));
        Check.refused("the hour before", Check.ARGUMENT, Scenes::busy, v -> v.price(29, 5));
        Check.refused("the hour -1", Check.ARGUMENT, Gasvault::new, v -> v.price(-1, 5));
        Check.refused("in 61 hours", Check.ARGUMENT, Scenes::busy, v -> v.price(91, 5));
        Check.refused("price -1001", Check.ARGUMENT, Scenes::busy, v -> v.price(40, -1001));
        Check.refused("price 1001", Check.ARGUMENT, Scenes::busy, v -> v.price(40, 1001));
        Check.refused("greatest hour", Check.ARGUMENT, Scenes::busy, v -> v.price(Integer.MAX_VALUE, 5));
        Check.refused("least hour", Check.ARGUMENT, Scenes::busy, v -> v.price(Integer.MIN_VALUE, 5));
        Check.refused("greatest price", Check.ARGUMENT, Scenes::busy, v -> v.price(40, Integer.MAX_VALUE));
        Check.refused("least price", Check.ARGUMENT, Scenes::busy, v -> v.price(40, Integer.MIN_VALUE));
    }
}
