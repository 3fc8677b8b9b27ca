/** Promise 7: customer, and the rates with their ratchets. */
public final class CustomerTest {
    public static void main(String[] args) {
        numbers();
        ratchets();
        bounds();
        onlySix();
        Check.end();
    }

    private static void numbers() {
        Gasvault v = new Gasvault();
        for (int i = 0; i < 6; i++) {
            Check.same("number of customer " + i, v.customer(10 + i, 5 + i, 20 + i, i % 4), i);
        }
        for (int i = 0; i < 6; i++) {
            Check.same("inventory of " + i, v.ofCustomer(i, 0), 0);
            Check.same("rate in of " + i, v.ofCustomer(i, 1), 5 + i);
            Check.same("rate out of " + i + ", half without gas", v.ofCustomer(i, 2), (20 + i) / 2);
            for (int what = 3; what < 6; what++) {
                Check.same("nothing yet of " + i, v.ofCustomer(i, what), 0);
            }
        }
        Check.same("all inventories", v.of(5), 0);
    }

    private static void ratchets() {
        ratchet(300, 0, 71, 15);
        ratchet(300, 99, 71, 15);
        ratchet(300, 100, 71, 31);
        ratchet(300, 101, 71, 31);
        ratchet(300, 200, 71, 31);
        ratchet(300, 201, 35, 31);
        ratchet(300, 300, 35, 31);
        ratchet(301, 100, 71, 15);
        ratchet(301, 101, 71, 31);
        ratchet(301, 200, 71, 31);
        ratchet(301, 201, 35, 31);
        ratchet(1, 1, 35, 31);
        ratchet(1000000, 333333, 71, 15);
        ratchet(1000000, 333334, 71, 31);
        ratchet(1000000, 400000, 71, 31);
    }

    private static void ratchet(int volume, int inventory, int in, int out) {
        Gasvault v = Scenes.wide();
        for (int i = 0; i < 5; i++) {
            v.customer(100000, 100000, 100000, 0);
            v.nominate(i, 2, 100000);
        }
        v.customer(volume, 71, 31, 0);
        v.pass(3);
        for (int i = 0, left = inventory; i < 5 && left > 0; i++) {
            int part = Math.min(left, 100000);
            v.transfer(i, 5, part);
            left -= part;
        }
        Check.same("inventory", v.ofCustomer(5, 0), inventory);
        Check.same("rate in now with " + inventory + " of " + volume, v.ofCustomer(5, 1), in);
        Check.same("rate out now with " + inventory + " of " + volume, v.ofCustomer(5, 2), out);
    }

    private static void bounds() {
        Check.taken("least of all", Scenes::busy, v -> v.customer(1, 0, 0, 0));
        Check.taken("greatest of all", Scenes::busy, v -> v.customer(1000000, 100000, 100000, 3));
        wrong("volume 0", v -> v.customer(0, 5, 5, 1));
        wrong("volume -1", v -> v.customer(-1, 5, 5, 1));
        wrong("volume 1000001", v -> v.customer(1000001, 5, 5, 1));
        wrong("in -1", v -> v.customer(10, -1, 5, 1));
        wrong("in 100001", v -> v.customer(10, 100001, 5, 1));
        wrong("out -1", v -> v.customer(10, 5, -1, 1));
        wrong("out 100001", v -> v.customer(10, 5, 100001, 1));
        wrong("rank -1", v -> v.customer(10, 5, 5, -1));
        wrong("rank 4", v -> v.customer(10, 5, 5, 4));
        wrong("greatest ints", v -> v.customer(Integer.MAX_VALUE, Integer.MAX_VALUE, 5, 5));
        wrong("least int", v -> v.customer(10, Integer.MIN_VALUE, 5, 0));
    }

    private static void wrong(String what, Check.Call call) {
        Check.refused(what, Check.ARGUMENT, Scenes::busy, call);
        Check.refused(what + " and there are 6", Check.ARGUMENT, Scenes::full, call);
    }

    private static void onlySix() {
        Check.same("the sixth", Scenes.busy().customer(10, 5, 5, 0), 5);
        Check.refused("the seventh", Check.STATE, Scenes::full, v -> v.customer(10, 5, 5, 0));
    }
}
