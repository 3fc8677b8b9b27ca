/** Objects for the tests to begin with. */
final class Scenes {
    private Scenes() {
    }

    /** One LAYER that takes and gives 500000 an hour and never stands in the way. */
    static Gasvault wide() {
        Gasvault v = new Gasvault();
        v.store(Gasvault.LAYER, 100000, 500000, 0, 1000, 1000000);
        v.wells(0, 100, 1000);
        return v;
    }

    /** Brings the units at once, and lets three hours go by: the hour after the last one may flow either way. */
    static void bring(Gasvault v, int customer, int units) {
        int now = (int) v.of(0);
        v.nominate(customer, now + 2, units);
        v.pass(5);
    }

    /** A wide store, and a customer of this kind who has so much in it; the hour is 5. */
    static Gasvault holding(int volume, int in, int out, int inventory) {
        Gasvault v = wide();
        v.customer(1000000, 100000, 100000, 0);
        v.customer(volume, in, out, 0);
        if (inventory > 0) {
            v.nominate(0, 2, inventory);
        }
        v.pass(5);
        if (inventory > 0) {
            v.transfer(0, 1, inventory);
        }
        return v;
    }

    /** The last customer, 5, of this kind, with an inventory up to 1000000; the hour is 6. */
    static Gasvault rich(int volume, int in, int out, int inventory) {
        Gasvault v = new Gasvault();
        for (int i = 0; i < 5; i++) {
            v.store(Gasvault.LAYER, 100000, 0, 0, 1000, 1000000);
            v.wells(i, 100, 1000);
            v.customer(1000000, 100000, 100000, 0);
            v.nominate(i, 2, 100000);
            v.nominate(i, 3, 100000);
        }
        v.customer(volume, in, out, 0);
        v.pass(6);
        int left = inventory;
        for (int i = 0; i < 5 && left > 0; i++) {
            int part = Math.min(left, 200000);
            v.transfer(i, 5, part);
            left -= part;
        }
        return v;
    }

    /** The busy one at the last hour but so many. */
    static Gasvault late(int left) {
        Gasvault v = busy();
        for (int hour = 30; hour < 9900 - left; hour = (int) v.of(0)) {
            v.pass(Math.min(240, 9900 - left - hour));
        }
        return v;
    }

    /** Four stores, five customers and nineteen laws, each with something told, in the middle of a day. */
    static Gasvault busy() {
        Gasvault v = new Gasvault();
        v.store(Gasvault.FIELD, 1000, 2000, 100, 800, 300);
        v.heat(12345);
        v.store(Gasvault.CAVERN, 500, 1000, 50, 900, 700);
        v.store(Gasvault.LAYER, 400, 900, 0, 1000, 950);
        v.store(Gasvault.CAVERN, 50, 0, 0, 1000, 20);
        for (int i = 0; i < 4; i++) {
            v.wells(i, 3 + i, 20 + i);
        }
        v.leak(0, 3);
        v.leak(1, 1);
        for (int i = 0; i < 5; i++) {
            v.customer(300 + 100 * i, 90 + i, 80 + i, i % 4);
            v.nominate(i, 2 + i, 40 + i);
            v.nominate(i, 10 + i, -30);
            v.nominate(i, 32, 11 * i - 20);
            v.nominate(i, 60, 7 * i);
        }
        for (int i = 0; i < 19; i++) {
            v.law(i, 20 + 3 * i, 10 * i);
        }
        v.pass(30);
        for (int i = 0; i < 5; i++) {
            v.nominate(i, 33 + i, 25 - 12 * i);
            v.price(30 + i, 100 - 30 * i);
        }
        v.price(90, 77);
        return v;
    }

    /** The same with a fifth store, a sixth customer and a twentieth law. */
    static Gasvault full() {
        Gasvault v = busy();
        v.store(Gasvault.FIELD, 3000, 4000, 30, 500, 90);
        v.customer(800, 33, 44, 2);
        v.law(30, 70, 200);
        return v;
    }
}
