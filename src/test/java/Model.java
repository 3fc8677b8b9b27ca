import java.math.BigInteger;
import java.util.ArrayList;
import java.util.Comparator;
import java.util.HashMap;
import java.util.List;
import java.util.Map;

/**
 * The document told a second time, as near to its words as can be and apart from src/main: nothing is kept that can
 * be counted anew, nominations and prices are never forgotten, sums are without bounds.
 */
final class Model {
    private static final class Store {
        int kind;
        long volume, water, gas, least, greatest, mark, many, strength, leak;
        BigInteger heat = BigInteger.ZERO;
    }

    private static final class Customer {
        int number;
        long volume, in, out, rank, inventory, brought, taken, curtailed;
        final Map<Long, Long> nominated = new HashMap<>();
    }

    /** What would be done in this hour, if it went by now. */
    private static final class Plan {
        long[] bring, take, cut;
        int[] why;
    }

    private final List<Store> stores = new ArrayList<>();
    private final List<Customer> customers = new ArrayList<>();
    private final List<long[]> laws = new ArrayList<>();
    private final Map<Long, Long> prices = new HashMap<>();
    private final Map<Long, Integer> flowed = new HashMap<>();
    private long now = 0;
    private long heatNow = 10000;
    private long came = 0, wentOut = 0, lost = 0;

    // ---- calls

    long store(int kind, int volume, int gas, int least, int greatest, int mark) {
        argument(kind == 0 || kind == 1 || kind == 2);
        argument(volume >= 1 && volume <= 100000);
        argument(least >= 0 && least <= 1000 && greatest >= least && greatest <= 1000);
        argument(mark >= 0 && mark <= 1000000);
        Store s = new Store();
        s.kind = kind;
        s.volume = volume;
        s.least = least;
        s.greatest = greatest;
        s.mark = mark;
        argument(gas >= leastGas(s) && gas <= mostGas(s));
        state(stores.size() < 5);
        s.gas = gas;
        s.heat = BigInteger.valueOf(heatNow).multiply(BigInteger.valueOf(gas));
        came += gas;
        stores.add(s);
        return stores.indexOf(s);
    }

    long wells(int store, int many, int strength) {
        Store s = storeOf(store);
        argument(many >= 0 && many <= 100 && strength >= 0 && strength <= 1000);
        s.many = many;
        s.strength = strength;
        return rate(store, false);
    }

    long leak(int store, int units) {
        Store s = storeOf(store);
        argument(units >= 0 && units <= 1000);
        long before = s.leak;
        s.leak = units;
        return before;
    }

    long leach(int store, int more) {
        Store s = storeOf(store);
        argument(more >= 1 && more <= 100000);
        state(s.kind == 1 && s.gas == 0 && s.volume + more <= 100000);
        return s.volume += more;
    }

    long heat(int heat) {
        argument(heat >= 0 && heat <= 20000);
        long before = heatNow;
        heatNow = heat;
        return before;
    }

    long customer(int volume, int in, int out, int rank) {
        argument(volume >= 1 && volume <= 1000000 && in >= 0 && in <= 100000 && out >= 0 && out <= 100000);
        argument(rank >= 0 && rank <= 3);
        state(customers.size() < 6);
        Customer c = new Customer();
        c.number = customers.size();
        c.volume = volume;
        c.in = in;
        c.out = out;
        c.rank = rank;
        customers.add(c);
        return c.number;
    }

    long nominate(int customer, int hour, int units) {
        Customer c = customerOf(customer);
        argument(hour >= now + 2 && hour <= now + 60 && units >= -1000000 && units <= 1000000);
        Long before = c.nominated.put((long) hour, (long) units);
        return before == null ? 0 : before;
    }

    long transfer(int from, int to, int units) {
        Customer a = customerOf(from);
        Customer b = customerOf(to);
        argument(from != to && units >= 1 && units <= 1000000);
        state(a.inventory >= units && b.inventory + units <= b.volume);
        a.inventory -= units;
        b.inventory += units;
        return b.inventory;
    }

    long law(int from, int to, int least) {
        argument(from >= now && from <= 10000 && to >= from && to <= 10000 && least >= 0 && least <= 10000000);
        state(laws.size() < 20);
        laws.add(new long[] {from, to, least});
        return laws.size();
    }

    long price(int hour, int cents) {
        argument(hour >= now && hour <= now + 60 && cents >= -1000 && cents <= 1000);
        Long before = prices.put((long) hour, (long) cents);
        return before == null ? 0 : before;
    }

    long pass(int hours) {
        argument(hours >= 1 && hours <= 240);
        state(now + hours <= 9900);
        for (int i = 0; i < hours; i++) {
            hourGoesBy();
        }
        return now;
    }

    // ---- asked

    long pressure(int store) {
        return pressure(storeOf(store));
    }

    long rate(int store, boolean isIn) {
        return rate(storeOf(store), isIn);
    }

    long mix(int store) {
        Store s = storeOf(store);
        return s.gas == 0 ? 0 : (int) (s.heat.floatValue() / BigInteger.valueOf(s.gas).floatValue());
    }

    long ofStore(int store, int what) {
        Store s = storeOf(store);
        argument(what >= 0 && what <= 6);
        return new long[] {s.gas, room(s), s.volume, s.water, s.heat.longValueExact(), leastGas(s), mostGas(s)}[what];
    }

    long ofCustomer(int customer, int what) {
        Customer c = customerOf(customer);
        argument(what >= 0 && what <= 5);
        return new long[] {c.inventory, in(c, c.inventory), out(c, c.inventory), c.brought, c.taken,
                c.curtailed}[what];
    }

    long flow(int customer) {
        customerOf(customer);
        Plan p = plan();
        return p.bring[customer] - p.take[customer];
    }

    long why(int customer) {
        customerOf(customer);
        return plan().why[customer];
    }

    long worth(int customer, int hours) {
        Customer c = customerOf(customer);
        argument(hours >= 1 && hours <= 8);
        Map<Long, Long> best = new HashMap<>();
        best.put(c.inventory, 0L);
        for (long hour = now; hour < now + hours; hour++) {
            long cents = prices.getOrDefault(hour, 0L);
            Map<Long, Long> next = new HashMap<>();
            for (Map.Entry<Long, Long> e : best.entrySet()) {
                long has = e.getKey();
                long brings = Math.min(in(c, has), c.volume - has);
                long takes = Math.min(out(c, has), has);
                next.merge(has, e.getValue(), Math::max);
                next.merge(has + brings, e.getValue() - brings * cents, Math::max);
                next.merge(has - takes, e.getValue() + takes * cents, Math::max);
            }
            best = next;
        }
        return best.values().stream().mapToLong(Long::longValue).max().getAsLong();
    }

    long of(int what) {
        argument(what >= 0 && what <= 7);
        long gas = stores.stream().mapToLong(s -> s.gas).sum();
        long inventories = inventories();
        Long law = lawNow();
        return new long[] {now, came, wentOut, lost, gas, inventories, gas - inventories, law == null ? 0 : law}[what];
    }

    // ---- terms

    private static void argument(boolean isRight) {
        if (!isRight) {
            throw new IllegalArgumentException();
        }
    }

    private static void state(boolean isRight) {
        if (!isRight) {
            throw new IllegalStateException();
        }
    }

    private Store storeOf(int number) {
        if (number < 0 || number >= stores.size()) {
            throw new IndexOutOfBoundsException();
        }
        return stores.get(number);
    }

    private Customer customerOf(int number) {
        if (number < 0 || number >= customers.size()) {
            throw new IndexOutOfBoundsException();
        }
        return customers.get(number);
    }

    private static long room(Store s) {
        return s.kind == 0 ? s.volume - s.water : s.volume;
    }

    private static long pressure(Store s) {
        return Math.floorDiv(100 * s.gas, room(s));
    }

    private static long leastGas(Store s) {
        return -Math.floorDiv(-(s.least * room(s)), 100L);
    }

    private static long mostGas(Store s) {
        return Math.floorDiv(s.greatest * room(s), 100L);
    }

    private static long rate(Store s, boolean isIn) {
        long far = isIn ? s.greatest - pressure(s) : pressure(s) - s.least;
        long most = isIn ? mostGas(s) - s.gas : s.gas - leastGas(s);
        long rate = Math.floorDiv(s.many * s.strength * far, 100L);
        return Math.max(0, Math.min(rate, most));
    }

    private static long in(Customer c, long inventory) {
        return 3 * inventory > 2 * c.volume ? Math.floorDiv(c.in, 2L) : c.in;
    }

    private static long out(Customer c, long inventory) {
        return 3 * inventory < c.volume ? Math.floorDiv(c.out, 2L) : c.out;
    }

    private long inventories() {
        return customers.stream().mapToLong(c -> c.inventory).sum();
    }

    private Long lawNow() {
        Long least = null;
        for (long[] law : laws) {
            if (law[0] <= now && now <= law[1]) {
                least = law[2];
            }
        }
        return least;
    }

    // ---- an hour

    private Plan plan() {
        int n = customers.size();
        Plan p = new Plan();
        p.bring = new long[n];
        p.take = new long[n];
        p.cut = new long[n];
        p.why = new int[n];
        for (Customer c : customers) {
            long nominated = c.nominated.getOrDefault(now, 0L);
            if (nominated > 0) {
                p.bring[c.number] = Math.min(nominated, Math.min(in(c, c.inventory), c.volume - c.inventory));
            } else {
                p.take[c.number] = Math.min(-nominated, Math.min(out(c, c.inventory), c.inventory));
            }
            p.why[c.number] = p.bring[c.number] - p.take[c.number] == nominated ? 0 : 1;
        }
        Long law = lawNow();
        if (law != null) {
            long allowed = Math.max(0, inventories() - law);
            curtail(p, p.take, sum(p.take) - allowed, 2);
        }
        long net = sum(p.bring) - sum(p.take);
        if (net > 0) {
            curtail(p, p.bring, net - plant(true), 3);
        } else if (net < 0) {
            curtail(p, p.take, -net - plant(false), 3);
        }
        return p;
    }

    private long plant(boolean isIn) {
        int otherWay = isIn ? -1 : 1;
        if (flowed.getOrDefault(now - 1, 0) == otherWay || flowed.getOrDefault(now - 2, 0) == otherWay) {
            return 0;
        }
        return stores.stream().mapToLong(s -> rate(s, isIn)).sum();
    }

    private void curtail(Plan p, long[] row, long by, int step) {
        List<Customer> order = new ArrayList<>(customers);
        order.sort(Comparator.comparingLong((Customer c) -> -c.rank).thenComparingInt(c -> -c.number));
        for (Customer c : order) {
            long less = Math.max(0, Math.min(by, row[c.number]));
            by -= less;
            row[c.number] -= less;
            p.cut[c.number] += less;
            if (less > 0 && p.why[c.number] == 0) {
                p.why[c.number] = step;
            }
        }
    }

    private static long sum(long[] row) {
        long sum = 0;
        for (long units : row) {
            sum += units;
        }
        return sum;
    }

    private void hourGoesBy() {
        Plan p = plan();
        long net = sum(p.bring) - sum(p.take);
        long[] rates = stores.stream().mapToLong(s -> rate(s, net > 0)).toArray();
        long left = Math.abs(net);
        for (int i = 0; i < rates.length; i++) {
            long part = Math.min(left, rates[i]);
            Store s = stores.get(i);
            if (net > 0) {
                s.gas += part;
                s.heat = s.heat.add(BigInteger.valueOf(part * heatNow));
                came += part;
            } else {
                wentOut += goes(s, part);
            }
            left -= part;
            if (part > 0) {
                flowed.put(now, net > 0 ? 1 : -1);
            }
        }
        for (Customer c : customers) {
            c.inventory += p.bring[c.number] - p.take[c.number];
            c.brought += p.bring[c.number];
            c.taken += p.take[c.number];
            c.curtailed += p.cut[c.number];
        }
        for (Store s : stores) {
            lost += goes(s, Math.min(s.leak, s.gas));
            if (s.kind == 2) {
                lost += goes(s, Math.max(0, s.gas - s.mark));
            }
        }
        now++;
        if (now % 24 == 0) {
            stores.forEach(this::dayEnds);
        }
    }

    private static long goes(Store s, long units) {
        if (units > 0) {
            BigInteger share = s.heat.multiply(BigInteger.valueOf(units)).divide(BigInteger.valueOf(s.gas));
            s.heat = s.heat.subtract(share);
            s.gas -= units;
        }
        return units;
    }

    private void dayEnds(Store s) {
        long pressure = pressure(s);
        if (s.kind == 0 && pressure < s.mark) {
            s.water += Math.floorDiv(room(s), 200L);
        } else if (s.kind == 0 && pressure > s.mark) {
            s.water -= -Math.floorDiv(-s.water, 200L);
        } else if (s.kind == 1 && pressure < s.mark) {
            long less = Math.floorDiv(s.volume * (s.mark - pressure), 100000L);
            s.volume = Math.max(1, s.volume - less);
        }
        lost += goes(s, Math.max(0, s.gas - mostGas(s)));
    }
}
