/** Promise 9: transfer. */
public final class TransferTest {
    public static void main(String[] args) {
        movesInventory();
        bounds();
        states();
        Check.end();
    }

    /** Customer 0 has 500 of 1000, customer 1 has 40 of 100, customer 2 none of 1000000. */
    private static Gasvault scene() {
        Gasvault v = Scenes.wide();
        v.customer(1000, 1000, 1000, 0);
        v.customer(100, 1000, 1000, 0);
        v.customer(1000000, 1000, 1000, 0);
        v.nominate(0, 2, 500);
        v.nominate(1, 2, 40);
        v.pass(3);
        return v;
    }

    private static void movesInventory() {
        Gasvault v = scene();
        Check.same("who got it", v.transfer(0, 1, 25), 65);
        Check.same("who gave it", v.ofCustomer(0, 0), 475);
        Check.same("who got it, asked", v.ofCustomer(1, 0), 65);
        Check.same("all it can hold", v.transfer(0, 1, 35), 100);
        Check.same("all it has", v.transfer(1, 2, 100), 100);
        Check.same("none left", v.ofCustomer(1, 0), 0);
        Check.same("one unit", v.transfer(2, 0, 1), 441);
        Check.same("all inventories", v.of(5), 540);
        Check.same("in all stores", v.of(4), 500540);
        for (int i = 0; i < 3; i++) {
            Check.same("brought, by the way in alone", v.ofCustomer(i, 3), i == 0 ? 500 : i == 1 ? 40 : 0);
            Check.same("taken", v.ofCustomer(i, 4), 0);
            Check.same("curtailed", v.ofCustomer(i, 5), 0);
        }
    }

    private static void bounds() {
        Check.refused("units 0", Check.ARGUMENT, TransferTest::scene, v -> v.transfer(0, 1, 0));
        Check.refused("units -1", Check.ARGUMENT, TransferTest::scene, v -> v.transfer(0, 1, -1));
        Check.refused("units 1000001", Check.ARGUMENT, TransferTest::scene, v -> v.transfer(0, 2, 1000001));
        Check.refused("units greatest int", Check.ARGUMENT, TransferTest::scene,
                v -> v.transfer(0, 2, Integer.MAX_VALUE));
        Check.refused("units least int", Check.ARGUMENT, TransferTest::scene,
                v -> v.transfer(0, 2, Integer.MIN_VALUE));
        Check.refused("to itself", Check.ARGUMENT, TransferTest::scene, v -> v.transfer(0, 0, 5));
        Check.refused("to itself, more than it has", Check.ARGUMENT, TransferTest::scene, v -> v.transfer(1, 1, 50));
        Check.refused("from 3", Check.INDEX, TransferTest::scene, v -> v.transfer(3, 0, 5));
        Check.refused("to 3", Check.INDEX, TransferTest::scene, v -> v.transfer(0, 3, 5));
        Check.refused("from -1", Check.INDEX, TransferTest::scene, v -> v.transfer(-1, 0, 5));
        Check.refused("to -1", Check.INDEX, TransferTest::scene, v -> v.transfer(0, -1, 5));
        Check.refused("both -1", Check.INDEX, TransferTest::scene, v -> v.transfer(-1, -1, 5));
        Check.refused("both 3 and units 0", Check.INDEX, TransferTest::scene, v -> v.transfer(3, 3, 0));
        Check.refused("to 3 and units 0", Check.INDEX, TransferTest::scene, v -> v.transfer(0, 3, 0));
        Check.refused("to 3, more than it has", Check.INDEX, TransferTest::scene, v -> v.transfer(0, 3, 501));
    }

    private static void states() {
        Check.refused("more than it has", Check.STATE, TransferTest::scene, v -> v.transfer(0, 2, 501));
        Check.taken("what it has", TransferTest::scene, v -> v.transfer(0, 2, 500));
        Check.refused("more than the other one holds", Check.STATE, TransferTest::scene, v -> v.transfer(0, 1, 61));
        Check.taken("what the other one holds", TransferTest::scene, v -> v.transfer(0, 1, 60));
        Check.refused("from none", Check.STATE, TransferTest::scene, v -> v.transfer(2, 0, 1));
        Check.refused("most units", Check.STATE, TransferTest::scene, v -> v.transfer(0, 2, 1000000));
        Check.refused("units 0 of none", Check.ARGUMENT, TransferTest::scene, v -> v.transfer(2, 0, 0));
    }
}
