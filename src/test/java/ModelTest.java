/** Long runs of calls on the class and on the model, answer by answer; the same runs each time. */
public final class ModelTest {
    private interface OnModel {
        long on(Model model);
    }

    private static final int RUNS = 1500;
    private static final int CALLS = 512;
    private static final int MOST_WORTHS = 12;

    private long seed;
    private int scale;
    private int worths;
    private int calls = 0;
    private Gasvault vault;
    private Model model;
    private StringBuilder told;

    public static void main(String[] args) {
        for (int run = 0; run < RUNS; run++) {
            new ModelTest().run(run);
        }
        Check.end();
    }

    private void run(int number) {
        seed = 0x5DEECE66DL * (number + 1);
        scale = new int[] {20, 300, 5000, 100000}[upTo(3)];
        worths = MOST_WORTHS;
        vault = new Gasvault();
        model = new Model();
        told = new StringBuilder("run ").append(number).append(':');
        begin();
        while (calls < CALLS) {
            one();
        }
    }

    private void begin() {
        int stores = from(1, 5);
        for (int i = 0; i < stores; i++) {
            store();
        }
        int customers = from(1, 6);
        for (int i = 0; i < customers; i++) {
            customer();
        }
        for (int i = 0; i < 10; i++) {
            nominate();
        }
    }

    private void one() {
        int kind = upTo(99);
        if (kind < 30) {
            nominate();
        } else if (kind < 52) {
            pass();
        } else if (kind < 60) {
            tellOfStore();
        } else if (kind < 64) {
            tellOfCustomers();
        } else if (kind < 66) {
            law();
        } else if (kind < 70) {
            price();
        } else {
            ask();
        }
    }

    // ---- calls that change something

    private void store() {
        int kind = odd() ? from(-1, 3) : upTo(2);
        int volume = odd() ? edge(1, 100000) : from(1, scale);
        int least = odd() ? edge(0, 1000) : upTo(3) == 0 ? upTo(400) : 0;
        int greatest = odd() ? edge(least, 1000) : from(Math.min(least, 1000), 1000);
        int low = (int) Math.max(0, Math.min(1000000, ((long) least * volume + 99) / 100));
        int high = (int) Math.max(0, Math.min(1000000, (long) greatest * volume / 100));
        int gas = odd() ? edge(low, high) : from(low, Math.max(low, high));
        int mark = odd() ? edge(0, 1000000) : upTo(9) == 0 ? upTo(1000000)
                : kind == 2 ? upTo(Math.max(1, 2 * high)) : upTo(1100);
        same("store(" + kind + ", " + volume + ", " + gas + ", " + least + ", " + greatest + ", " + mark + ")",
                v -> v.store(kind, volume, gas, least, greatest, mark),
                m -> m.store(kind, volume, gas, least, greatest, mark));
        int number = from(0, 4);
        int many = odd() ? edge(0, 100) : upTo(100);
        int strength = odd() ? edge(0, 1000) : upTo(Math.min(1000, scale));
        same("wells(" + number + ", " + many + ", " + strength + ")",
                v -> v.wells(number, many, strength), m -> m.wells(number, many, strength));
    }

    private void customer() {
        int volume = odd() ? edge(1, 1000000) : from(1, 4 * scale);
        int in = odd() ? edge(0, 100000) : upTo(scale);
        int out = odd() ? edge(0, 100000) : upTo(scale);
        int rank = odd() ? edge(0, 3) : upTo(3);
        same("customer(" + volume + ", " + in + ", " + out + ", " + rank + ")",
                v -> v.customer(volume, in, out, rank), m -> m.customer(volume, in, out, rank));
    }

    private void nominate() {
        int now = (int) model.of(0);
        int customer = customerNumber();
        int hour = odd() ? edge(now + 2, now + 60) : now + from(2, upTo(3) == 0 ? 12 : 4);
        int units = odd() ? edge(-1000000, 1000000) : from(-scale, scale);
        same("nominate(" + customer + ", " + hour + ", " + units + ")",
                v -> v.nominate(customer, hour, units), m -> m.nominate(customer, hour, units));
    }

    private void pass() {
        int hours = odd() ? edge(1, 240) : upTo(11) == 0 ? from(1, 240) : from(1, 3);
        same("pass(" + hours + ")", v -> v.pass(hours), m -> m.pass(hours));
    }

    private void tellOfStore() {
        int store = storeNumber();
        int most = Math.max(1, Math.min(1000, scale / 20));
        switch (upTo(4)) {
            case 0: {
                int units = odd() ? edge(0, 1000) : upTo(most);
                same("leak(" + store + ", " + units + ")", v -> v.leak(store, units), m -> m.leak(store, units));
                break;
            }
            case 1: {
                int more = odd() ? edge(1, 100000) : from(1, scale);
                same("leach(" + store + ", " + more + ")", v -> v.leach(store, more), m -> m.leach(store, more));
                break;
            }
            case 2: {
                int heat = odd() ? edge(0, 20000) : upTo(20000);
                same("heat(" + heat + ")", v -> v.heat(heat), m -> m.heat(heat));
                break;
            }
            case 3: {
                int many = upTo(100);
                int strength = upTo(Math.min(1000, scale));
                same("wells(" + store + ", " + many + ", " + strength + ")",
                        v -> v.wells(store, many, strength), m -> m.wells(store, many, strength));
                break;
            }
            default:
                if (upTo(3) == 0) {
                    store();
                }
        }
    }

    private void tellOfCustomers() {
        if (upTo(5) == 0) {
            customer();
            return;
        }
        int from = customerNumber();
        int to = customerNumber();
        int has = from >= 0 && from < customers() ? (int) model.ofCustomer(from, 0) : 0;
        int units = odd() ? edge(1, 1000000) : from(0, has + 1);
        same("transfer(" + from + ", " + to + ", " + units + ")",
                v -> v.transfer(from, to, units), m -> m.transfer(from, to, units));
    }

    private void law() {
        int now = (int) model.of(0);
        int from = odd() ? edge(now, 10000) : now + upTo(6);
        int to = odd() ? edge(from, 10000) : from + upTo(30);
        int least = odd() ? edge(0, 10000000) : upTo((int) Math.max(1, 2 * model.of(5)));
        same("law(" + from + ", " + to + ", " + least + ")",
                v -> v.law(from, to, least), m -> m.law(from, to, least));
    }

    private void price() {
        int now = (int) model.of(0);
        int hour = odd() ? edge(now, now + 60) : now + upTo(8);
        int cents = odd() ? edge(-1000, 1000) : from(-100, 200);
        same("price(" + hour + ", " + cents + ")", v -> v.price(hour, cents), m -> m.price(hour, cents));
    }

    // ---- calls that ask

    private void ask() {
        int store = storeNumber();
        int customer = customerNumber();
        switch (upTo(8)) {
            case 0:
                same("pressure(" + store + ")", v -> v.pressure(store), m -> m.pressure(store));
                break;
            case 1: {
                boolean isIn = upTo(1) == 0;
                same("rate(" + store + ", " + isIn + ")", v -> v.rate(store, isIn), m -> m.rate(store, isIn));
                break;
            }
            case 2:
                same("mix(" + store + ")", v -> v.mix(store), m -> m.mix(store));
                break;
            case 3: {
                int what = odd() ? edge(0, 6) : upTo(6);
                same("ofStore(" + store + ", " + what + ")", v -> v.ofStore(store, what),
                        m -> m.ofStore(store, what));
                break;
            }
            case 4: {
                int what = odd() ? edge(0, 5) : upTo(5);
                same("ofCustomer(" + customer + ", " + what + ")", v -> v.ofCustomer(customer, what),
                        m -> m.ofCustomer(customer, what));
                break;
            }
            case 5:
                same("flow(" + customer + ")", v -> v.flow(customer), m -> m.flow(customer));
                break;
            case 6:
                same("why(" + customer + ")", v -> v.why(customer), m -> m.why(customer));
                break;
            case 7:
                worth(customer);
                break;
            default: {
                int what = odd() ? edge(0, 7) : upTo(7);
                same("of(" + what + ")", v -> v.of(what), m -> m.of(what));
            }
        }
    }

    /** All ways of many hours take long, so that a run asks for few of them. */
    private void worth(int customer) {
        if (worths-- <= 0) {
            same("flow(" + customer + ")", v -> v.flow(customer), m -> m.flow(customer));
            return;
        }
        int hours = odd() ? edge(1, 8) : from(1, upTo(3) == 0 ? 8 : 5);
        same("worth(" + customer + ", " + hours + ")", v -> v.worth(customer, hours), m -> m.worth(customer, hours));
        same("worthAnew(" + customer + ", " + hours + ")", v -> v.worthAnew(customer, hours),
                m -> m.worth(customer, hours));
    }

    // ---- what is drawn

    private int customers() {
        int many = 0;
        while (many < 6 && answer(m(many)).indexOf("java") < 0) {
            many++;
        }
        return many;
    }

    private static OnModel m(int customer) {
        return m -> m.ofCustomer(customer, 0);
    }

    private int storeNumber() {
        return odd() ? edge(0, 4) : upTo(4);
    }

    private int customerNumber() {
        return odd() ? edge(0, 5) : upTo(5);
    }

    private boolean odd() {
        return upTo(15) == 0;
    }

    /** A bound, from inside or from outside, or a far one. */
    private int edge(int least, int greatest) {
        switch (upTo(9)) {
            case 0: return Integer.MIN_VALUE;
            case 1: return Integer.MAX_VALUE;
            case 2: case 3: return least - 1;
            case 4: case 5: return greatest + 1;
            case 6: case 7: return least;
            default: return greatest;
        }
    }

    private int from(int least, int greatest) {
        return greatest <= least ? least : least + upTo(greatest - least);
    }

    private int upTo(int greatest) {
        seed = seed * 6364136223846793005L + 1442695040888963407L;
        return (int) Math.floorMod(seed >>> 33, (long) greatest + 1);
    }

    private String answer(OnModel call) {
        try {
            return Long.toString(call.on(model));
        } catch (RuntimeException e) {
            return e.getClass().getName();
        }
    }

    private void same(String what, Check.Call call, OnModel onModel) {
        if (calls >= CALLS) {
            return;
        }
        calls++;
        told.append(' ').append(what);
        String got = Check.answer(vault, call);
        String due = answer(onModel);
        Check.same(got.equals(due) ? what : told.toString(), got, due);
    }
}
