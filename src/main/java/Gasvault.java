import java.util.ArrayList;

/**
 * A gas storage house: stores under the ground, customers who nominate by hours, laws that keep gas in,
 * and what a contract is worth by prices to come. The document is ../shared/DOC.md.
 */
public final class Gasvault {
    public static final int NONE = -1;
    public static final int FIELD = 0, CAVERN = 1, LAYER = 2;

    private static final int MOST_STORES = 5;
    private static final int MOST_CUSTOMERS = 6;
    private static final int MOST_LAWS = 20;
    private static final int MOST_VOLUME = 100000;
    private static final int GREATEST_PRESSURE = 1000;
    private static final int MOST_MARK = 1000000;
    private static final int MOST_UNITS = 1000000;
    private static final int MOST_RATE = 100000;
    private static final int GREATEST_RANK = 3;
    private static final int MOST_HEAT = 20000;
    private static final int HEAT_AT_FIRST = 10000;
    private static final int SOONEST_NOMINATION = 2;
    private static final int HOURS_AHEAD = 60;
    private static final int LAST_HOUR = 9900;
    private static final int LAST_LAW_HOUR = 10000;
    private static final int MOST_WORTH_HOURS = 8;
    private static final int DAY = 24;
    private static final int HOURS_TO_TURN = 2;
    // So long ago that the plant is free to flow either way in the hour 0.
    private static final int NEVER = -1000;
    private static final int BY_RATES = 1, BY_LAW = 2, BY_PLANT = 3;

    private final ArrayList<Store> stores = new ArrayList<Store>();
    private final ArrayList<Customer> customers = new ArrayList<Customer>();
    private final ArrayList<Law> laws = new ArrayList<Law>();
    private final Hours prices = new Hours();
    private int hour = 0;
    private int heatOfWhatComes = HEAT_AT_FIRST;
    private int lastHourIn = NEVER;
    private int lastHourOut = NEVER;
    private long came = 0;
    private long wentOut = 0;
    private long lost = 0;

    public Gasvault() {
    }

    // ---- stores

    public int store(int kind, int volume, int gas, int least, int greatest, int mark)
            throws IllegalArgumentException, IllegalStateException {
        if (!isWithin(kind, FIELD, LAYER) || !isWithin(volume, 1, MOST_VOLUME)
                || !isWithin(least, 0, GREATEST_PRESSURE) || !isWithin(greatest, least, GREATEST_PRESSURE)
                || !isWithin(mark, 0, MOST_MARK)
                || !isWithin(gas, Store.leastGasFor(least, volume), Store.mostGasFor(greatest, volume))) {
            throw new IllegalArgumentException("an argument of the store is out of range");
        }
        if (stores.size() >= MOST_STORES) {
            throw new IllegalStateException("no more stores fit");
        }
        Store taken = new Store(kind, volume, least, greatest, mark);
        taken.takeIn(gas, heatOfWhatComes);
        stores.add(taken);
        came += gas;
        return stores.size() - 1;
    }

    public int wells(int store, int many, int strength) throws IndexOutOfBoundsException, IllegalArgumentException {
        Store one = storeNumbered(store);
        if (!isWithin(many, 0, 100) || !isWithin(strength, 0, 1000)) {
            throw new IllegalArgumentException("many or strength is out of range");
        }
        one.wells = many;
        one.strength = strength;
        return one.rateOut();
    }

    public int leak(int store, int units) throws IndexOutOfBoundsException, IllegalArgumentException {
        Store one = storeNumbered(store);
        if (!isWithin(units, 0, 1000)) {
            throw new IllegalArgumentException("units is out of range");
        }
        int before = one.leak;
        one.leak = units;
        return before;
    }

    public int leach(int store, int more)
            throws IndexOutOfBoundsException, IllegalArgumentException, IllegalStateException {
        Store one = storeNumbered(store);
        if (!isWithin(more, 1, MOST_VOLUME)) {
            throw new IllegalArgumentException("more is out of range");
        }
        if (one.kind != CAVERN || one.gas > 0 || one.volume + more > MOST_VOLUME) {
            throw new IllegalStateException("only an empty cavern can be leached, up to the greatest volume");
        }
        one.volume += more;
        return one.volume;
    }

    public int heat(int heat) throws IllegalArgumentException {
        if (!isWithin(heat, 0, MOST_HEAT)) {
            throw new IllegalArgumentException("heat is out of range");
        }
        int before = heatOfWhatComes;
        heatOfWhatComes = heat;
        return before;
    }

    // ---- customers

    public int customer(int volume, int in, int out, int rank) throws IllegalArgumentException, IllegalStateException {
        if (!isWithin(volume, 1, MOST_UNITS) || !isWithin(in, 0, MOST_RATE) || !isWithin(out, 0, MOST_RATE)
                || !isWithin(rank, 0, GREATEST_RANK)) {
            throw new IllegalArgumentException("an argument of the customer is out of range");
        }
        if (customers.size() >= MOST_CUSTOMERS) {
            throw new IllegalStateException("no more customers fit");
        }
        customers.add(new Customer(volume, in, out, rank));
        return customers.size() - 1;
    }

    public int nominate(int customer, int hour, int units) throws IndexOutOfBoundsException, IllegalArgumentException {
        Customer one = customerNumbered(customer);
        if (!isWithin(hour, this.hour + SOONEST_NOMINATION, this.hour + HOURS_AHEAD)
                || !isWithin(units, -MOST_UNITS, MOST_UNITS)) {
            throw new IllegalArgumentException("hour or units is out of range");
        }
        return one.nominations.put(hour, units);
    }

    public int transfer(int from, int to, int units)
            throws IndexOutOfBoundsException, IllegalArgumentException, IllegalStateException {
        Customer giver = customerNumbered(from);
        Customer getter = customerNumbered(to);
        if (from == to || !isWithin(units, 1, MOST_UNITS)) {
            throw new IllegalArgumentException("both are the same, or units is out of range");
        }
        if (giver.inventory < units || getter.volume - getter.inventory < units) {
            throw new IllegalStateException("the one has less, or the other one has no room for it");
        }
        giver.inventory -= units;
        getter.inventory += units;
        return getter.inventory;
    }

    public int law(int from, int to, int least) throws IllegalArgumentException, IllegalStateException {
        if (!isWithin(from, hour, LAST_LAW_HOUR) || !isWithin(to, from, LAST_LAW_HOUR)
                || !isWithin(least, 0, 10000000)) {
            throw new IllegalArgumentException("an argument of the law is out of range");
        }
        if (laws.size() >= MOST_LAWS) {
            throw new IllegalStateException("no more laws fit");
        }
        laws.add(new Law(from, to, least));
        return laws.size();
    }

    public int price(int hour, int cents) throws IllegalArgumentException {
        if (!isWithin(hour, this.hour, this.hour + HOURS_AHEAD) || !isWithin(cents, -1000, 1000)) {
            throw new IllegalArgumentException("hour or cents is out of range");
        }
        return prices.put(hour, cents);
    }

    public int pass(int hours) throws IllegalArgumentException, IllegalStateException {
        if (!isWithin(hours, 1, 240)) {
            throw new IllegalArgumentException("hours is out of range");
        }
        if (hour + hours > LAST_HOUR) {
            throw new IllegalStateException("the hour would be above the last one");
        }
        for (int i = 0; i < hours; i++) {
            goOneHour();
        }
        return hour;
    }

    // ---- what is asked

    public int pressure(int store) throws IndexOutOfBoundsException {
        return storeNumbered(store).pressureNow();
    }

    public int rate(int store, boolean isIn) throws IndexOutOfBoundsException {
        Store one = storeNumbered(store);
        return isIn ? one.rateIn() : one.rateOut();
    }

    public int mix(int store) throws IndexOutOfBoundsException {
        Store one = storeNumbered(store);
        return one.gas > 0 ? (int) ((float) one.heat / (float) one.gas) : 0;
    }

    public long ofStore(int store, int what) throws IndexOutOfBoundsException, IllegalArgumentException {
        Store one = storeNumbered(store);
        switch (what) {
            case 0: return one.gas;
            case 1: return one.room();
            case 2: return one.volume;
            case 3: return one.water;
            case 4: return one.heat;
            case 5: return one.leastGas();
            case 6: return one.mostGas();
            default: throw new IllegalArgumentException("what is out of range");
        }
    }

    public long ofCustomer(int customer, int what) throws IndexOutOfBoundsException, IllegalArgumentException {
        Customer one = customerNumbered(customer);
        switch (what) {
            case 0: return one.inventory;
            case 1: return one.rateInWith(one.inventory);
            case 2: return one.rateOutWith(one.inventory);
            case 3: return one.brought;
            case 4: return one.taken;
            case 5: return one.curtailed;
            default: throw new IllegalArgumentException("what is out of range");
        }
    }

    public int flow(int customer) throws IndexOutOfBoundsException {
        Customer one = customerNumbered(customer);
        planTheHour();
        return one.planned;
    }

    public int why(int customer) throws IndexOutOfBoundsException {
        Customer one = customerNumbered(customer);
        planTheHour();
        return one.cause;
    }

    public long worth(int customer, int hours) throws IndexOutOfBoundsException, IllegalArgumentException {
        Customer one = customerNumbered(customer);
        if (!isWithin(hours, 1, MOST_WORTH_HOURS)) {
            throw new IllegalArgumentException("hours is out of range");
        }
        return bestSum(one, prices, one.inventory, hour, hours);
    }

    public long worthAnew(int customer, int hours) throws IndexOutOfBoundsException, IllegalArgumentException {
        Customer one = customerNumbered(customer);
        if (!isWithin(hours, 1, MOST_WORTH_HOURS)) {
            throw new IllegalArgumentException("hours is out of range");
        }
        int ways = 1;
        for (int i = 0; i < hours; i++) {
            ways *= 3;
        }
        // To do nothing in all hours is a way as well, so that the worth is never below 0.
        long best = 0;
        for (int way = 0; way < ways; way++) {
            best = Math.max(best, sumOfWay(one, way, hours));
        }
        return best;
    }

    public long of(int what) throws IllegalArgumentException {
        switch (what) {
            case 0: return hour;
            case 1: return came;
            case 2: return wentOut;
            case 3: return lost;
            case 4: return gasInAllStores();
            case 5: return allInventories();
            case 6: return gasInAllStores() - allInventories();
            case 7: return Math.max(0, leastByLaw());
            default: throw new IllegalArgumentException("what is out of range");
        }
    }

    // ---- what is looked up

    private static boolean isWithin(int value, int from, int to) {
        return value >= from && value <= to;
    }

    private Store storeNumbered(int number) {
        if (number < 0 || number >= stores.size()) {
            throw new IndexOutOfBoundsException("no such store");
        }
        return stores.get(number);
    }

    private Customer customerNumbered(int number) {
        if (number < 0 || number >= customers.size()) {
            throw new IndexOutOfBoundsException("no such customer");
        }
        return customers.get(number);
    }

    private int gasInAllStores() {
        int sum = 0;
        for (int i = 0; i < stores.size(); i++) {
            sum += stores.get(i).gas;
        }
        return sum;
    }

    private int allInventories() {
        int sum = 0;
        for (int i = 0; i < customers.size(); i++) {
            sum += customers.get(i).inventory;
        }
        return sum;
    }

    /** What the law of this hour keeps in; NONE without a law. The one told last counts, so it is looked for first. */
    private int leastByLaw() {
        for (int i = laws.size() - 1; i >= 0; i--) {
            Law one = laws.get(i);
            if (isWithin(hour, one.from, one.to)) {
                return one.least;
            }
        }
        return NONE;
    }

    // ---- an hour

    /** Steps 1 to 3: tells each customer's planned units, cuts and cause, and changes nothing that can be asked. */
    private void planTheHour() {
        for (int i = 0; i < customers.size(); i++) {
            customers.get(i).planByRates(hour);
        }
        curtail(false, plannedAboveTheLaw(), BY_LAW);
        int net = plannedNet();
        boolean isIn = net > 0;
        curtail(isIn, Math.abs(net) - capacityOfPlant(isIn), BY_PLANT);
    }

    /** By how much more is to be taken than the law lets go; not above 0 if nothing is. */
    private int plannedAboveTheLaw() {
        int least = leastByLaw();
        if (least == NONE) {
            return 0;
        }
        int toBeTaken = 0;
        for (int i = 0; i < customers.size(); i++) {
            toBeTaken += customers.get(i).sizeOfPlan(false);
        }
        return toBeTaken - Math.max(0, allInventories() - least);
    }

    private int plannedNet() {
        int net = 0;
        for (int i = 0; i < customers.size(); i++) {
            net += customers.get(i).planned;
        }
        return net;
    }

    private int capacityOfPlant(boolean isIn) {
        int lastOtherWay = isIn ? lastHourOut : lastHourIn;
        if (hour - lastOtherWay <= HOURS_TO_TURN) {
            return 0;
        }
        int sum = 0;
        for (int i = 0; i < stores.size(); i++) {
            Store one = stores.get(i);
            sum += isIn ? one.rateIn() : one.rateOut();
        }
        return sum;
    }

    private void curtail(boolean isBringing, int amount, int step) {
        int left = amount;
        for (int rank = GREATEST_RANK; rank >= 0; rank--) {
            for (int i = customers.size() - 1; i >= 0 && left > 0; i--) {
                Customer one = customers.get(i);
                if (one.rank == rank) {
                    left -= one.cutBack(isBringing, left, step);
                }
            }
        }
    }

    private void goOneHour() {
        planTheHour();
        int net = plannedNet();
        if (net > 0) {
            flowIn(net);
        } else if (net < 0) {
            flowOut(-net);
        }
        for (int i = 0; i < customers.size(); i++) {
            customers.get(i).settle(hour);
        }
        for (int i = 0; i < stores.size(); i++) {
            lost += stores.get(i).loseInAnHour();
        }
        prices.put(hour, 0);
        hour++;
        if (hour % DAY == 0) {
            endTheDay();
        }
    }

    private void flowIn(int units) {
        int left = units;
        for (int i = 0; i < stores.size(); i++) {
            Store one = stores.get(i);
            int part = Math.min(left, one.rateIn());
            one.takeIn(part, heatOfWhatComes);
            left -= part;
        }
        came += units - left;
        if (left < units) {
            lastHourIn = hour;
        }
    }

    private void flowOut(int units) {
        int left = units;
        for (int i = 0; i < stores.size(); i++) {
            Store one = stores.get(i);
            left -= one.giveAway(Math.min(left, one.rateOut()));
        }
        wentOut += units - left;
        if (left < units) {
            lastHourOut = hour;
        }
    }

    private void endTheDay() {
        for (int i = 0; i < stores.size(); i++) {
            lost += stores.get(i).loseAtDaysEnd();
        }
    }

    // ---- worth

    /** The greatest sum of the hours left, from the hour at on; hours are at most 8, and so is the depth. */
    private static long bestSum(Customer one, Hours prices, int inventory, int at, int left) {
        if (left <= 0 || left > MOST_WORTH_HOURS) {
            return 0;
        }
        long best = bestSum(one, prices, inventory, at + 1, left - 1);
        long cents = prices.at(at);
        int in = one.mostIn(inventory);
        if (in > 0) {
            best = Math.max(best, bestSum(one, prices, inventory + in, at + 1, left - 1) - in * cents);
        }
        int out = one.mostOut(inventory);
        if (out > 0) {
            best = Math.max(best, bestSum(one, prices, inventory - out, at + 1, left - 1) + out * cents);
        }
        return best;
    }

    /** The sum of one way: the digits of way to the base 3 tell what is done hour by hour. */
    private long sumOfWay(Customer one, int way, int hours) {
        int inventory = one.inventory;
        int rest = way;
        long sum = 0;
        for (int i = 0; i < hours; i++) {
            int done = rest % 3;
            rest /= 3;
            int units = done == 1 ? one.mostIn(inventory) : done == 2 ? -one.mostOut(inventory) : 0;
            inventory += units;
            sum -= (long) units * prices.at(hour + i);
        }
        return sum;
    }

    /** What was told for single hours, 0 at first; reaches from now to the last hour that may be told of. */
    private static final class Hours {
        // More than the 61 hours from now to now and 60, so that no two of them share a place.
        private static final int SPAN = 64;

        private final int[] values = new int[SPAN];

        int at(int hour) {
            return values[Math.floorMod(hour, SPAN)];
        }

        int put(int hour, int value) {
            int place = Math.floorMod(hour, SPAN);
            int before = values[place];
            values[place] = value;
            return before;
        }
    }

    private static final class Law {
        final int from;
        final int to;
        final int least;

        Law(int from, int to, int least) {
            this.from = from;
            this.to = to;
            this.least = least;
        }
    }

    private static final class Store {
        final int kind;
        final int least;
        final int greatest;
        final int mark;
        int volume;
        int water = 0;
        int gas = 0;
        long heat = 0;
        int wells = 0;
        int strength = 0;
        int leak = 0;

        Store(int kind, int volume, int least, int greatest, int mark) {
            this.kind = kind;
            this.volume = volume;
            this.least = least;
            this.greatest = greatest;
            this.mark = mark;
        }

        static int leastGasFor(int least, int room) {
            return (least * room + 99) / 100;
        }

        static int mostGasFor(int greatest, int room) {
            return greatest * room / 100;
        }

        int room() {
            return volume - water;
        }

        int pressureNow() {
            int room = room();
            return room > 0 ? 100 * gas / room : 0;
        }

        int leastGas() {
            return leastGasFor(least, room());
        }

        int mostGas() {
            return mostGasFor(greatest, room());
        }

        int rateIn() {
            return rateBy(greatest - pressureNow(), mostGas() - gas);
        }

        int rateOut() {
            return rateBy(pressureNow() - least, gas - leastGas());
        }

        private int rateBy(int drive, int most) {
            return Math.max(0, Math.min(wells * strength * drive / 100, most));
        }

        void takeIn(int units, int heatOfEach) {
            gas += units;
            heat += (long) units * heatOfEach;
        }

        /** Gives gas away, as far as there is some, with its share of the heat; answers how much. */
        int giveAway(int units) {
            int gone = Math.min(units, gas);
            if (gone <= 0) {
                return 0;
            }
            heat -= gone * heat / gas;
            gas -= gone;
            return gone;
        }

        int loseInAnHour() {
            int leaked = giveAway(leak);
            return kind == LAYER ? leaked + giveAway(gas - mark) : leaked;
        }

        int loseAtDaysEnd() {
            if (kind == FIELD) {
                moveWater();
            } else if (kind == CAVERN) {
                creep();
            }
            return giveAway(gas - mostGas());
        }

        private void moveWater() {
            int pressure = pressureNow();
            if (pressure < mark) {
                water += room() / 200;
            } else if (pressure > mark) {
                water -= (water + 199) / 200;
            }
        }

        private void creep() {
            long below = mark - pressureNow();
            if (below > 0) {
                volume = (int) Math.max(1, volume - volume * below / 100000);
            }
        }
    }

    private static final class Customer {
        final int volume;
        final int in;
        final int out;
        final int rank;
        final Hours nominations = new Hours();
        int inventory = 0;
        long brought = 0;
        long taken = 0;
        long curtailed = 0;
        // The plan of the hour: units to bring, or, below 0, to take; what steps 2 and 3 cut; the first step that did.
        int planned = 0;
        int cut = 0;
        int cause = 0;

        Customer(int volume, int in, int out, int rank) {
            this.volume = volume;
            this.in = in;
            this.out = out;
            this.rank = rank;
        }

        int rateInWith(int inventory) {
            return 3 * inventory > 2 * volume ? in / 2 : in;
        }

        int rateOutWith(int inventory) {
            return 3 * inventory < volume ? out / 2 : out;
        }

        int mostIn(int inventory) {
            return Math.min(rateInWith(inventory), volume - inventory);
        }

        int mostOut(int inventory) {
            return Math.min(rateOutWith(inventory), inventory);
        }

        void planByRates(int hour) {
            int nominated = nominations.at(hour);
            planned = Math.max(-mostOut(inventory), Math.min(nominated, mostIn(inventory)));
            cut = 0;
            cause = planned == nominated ? 0 : BY_RATES;
        }

        int sizeOfPlan(boolean isBringing) {
            return Math.max(0, isBringing ? planned : -planned);
        }

        /** Makes the plan less by at most so much; answers by how much. */
        int cutBack(boolean isBringing, int most, int step) {
            int less = Math.min(sizeOfPlan(isBringing), most);
            if (less <= 0) {
                return 0;
            }
            planned += isBringing ? -less : less;
            cut += less;
            if (cause == 0) {
                cause = step;
            }
            return less;
        }

        void settle(int hour) {
            inventory += planned;
            brought += sizeOfPlan(true);
            taken += sizeOfPlan(false);
            curtailed += cut;
            nominations.put(hour, 0);
        }
    }
}
