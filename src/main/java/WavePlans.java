import java.util.NoSuchElementException;

/** Waves of orders in a warehouse: README.md says how to use them, ../shared/DOC.md what each call promises. */
public final class WavePlans {
    private static final int LAST_CAPACITY = 65536;
    private static final int LAST_TIME = 100000;
    private static final int LAST_SECONDS = 10000;
    private static final int LAST_STOCK = 10000;
    private static final int LAST_OF_LINE = 100;
    private static final int ZONES = 8;
    private static final int CARRIERS = 4;
    private static final int GOODS = 10;

    private static final int MOST_ORDERS = 16;
    private static final int MOST_LINES = 4;
    private static final int MOST_HOURS = 10;
    private static final int MOST_WAVES = 16;

    private static final int SAVED_IN_ONE_ZONE = 10;
    private static final int SAVED_IN_NEXT_ZONE = 5;
    private static final int SAVED_BY_A_GOOD = 3;

    /** Where an order is that is in no wave; any other place is the number of its wave. */
    private static final int FREE = 0;
    private static final int LATE = -1;

    private static final int NONE = -1;

    private static final int NO_HOUR = 1;
    private static final int NO_GOODS = 2;

    private final int capacity;
    private final Docks docks;
    private final int[] pieces;
    private final Order[] orders;
    private int orderCount;
    /** Wave w stands at w - 1. */
    private final Wave[] waves;
    private int waveCount;
    /** Holds two waves as they would be joined, so that a refused join has changed nothing. */
    private final Wave trial;

    public WavePlans(int capacity) {
        this.capacity = Math.max(0, Math.min(capacity, LAST_CAPACITY));
        docks = new Docks();
        pieces = new int[GOODS];
        orders = new Order[MOST_ORDERS];
        for (int i = 0; i < MOST_ORDERS; i++) {
            orders[i] = new Order();
        }
        waves = new Wave[MOST_WAVES];
        for (int i = 0; i < MOST_WAVES; i++) {
            waves[i] = new Wave();
        }
        trial = new Wave();
    }

    public int order(int due, int zone, int seconds) throws IllegalArgumentException, UnsupportedOperationException {
        requireRange(due, 0, LAST_TIME);
        requireRange(zone, 0, ZONES - 1);
        requireRange(seconds, 1, LAST_SECONDS);
        if (orderCount >= MOST_ORDERS) {
            throw new UnsupportedOperationException("no room for an order");
        }
        Order added = orders[orderCount];
        added.due = due;
        added.zone = zone;
        added.seconds = seconds;
        orderCount++;
        return orderCount - 1;
    }

    public int line(int order, int good, int n) throws NoSuchElementException, IllegalArgumentException, IllegalStateException, UnsupportedOperationException {
        Order wanting = requireOrder(order);
        requireRange(good, 0, GOODS - 1);
        requireRange(n, 1, LAST_OF_LINE);
        requireFree(wanting);
        if (wanting.wanted[good] > 0) {
            throw new IllegalStateException("the order has a line of this good");
        }
        if (wanting.lines >= MOST_LINES) {
            throw new UnsupportedOperationException("no room for a line");
        }
        wanting.wanted[good] = n;
        wanting.lines++;
        return wanting.lines;
    }

    public void carrier(int order, int carrier) throws NoSuchElementException, IllegalArgumentException, IllegalStateException {
        Order carried = requireOrder(order);
        requireRange(carrier, 0, CARRIERS - 1);
        requireFree(carried);
        carried.carrier = carrier;
    }

    public int hour(int carrier, int from, int to) throws IllegalArgumentException, UnsupportedOperationException {
        requireRange(carrier, 0, CARRIERS - 1);
        requireRange(from, 0, LAST_TIME);
        requireRange(to, from, LAST_TIME);
        if (docks.size >= MOST_HOURS) {
            throw new UnsupportedOperationException("no room for an hour");
        }
        docks.open(carrier, from, to);
        return docks.hoursOf(carrier);
    }

    public void stock(int good, int n) throws IllegalArgumentException {
        requireRange(good, 0, GOODS - 1);
        requireRange(n, 0, LAST_STOCK);
        pieces[good] = n;
    }

    public int plan() throws UnsupportedOperationException {
        int before = waveCount;
        if (!makeWaves()) {
            undoWavesBehind(before);
            throw new UnsupportedOperationException("no room for the waves");
        }
        return savedBehind(before);
    }

    public int wave(int order) throws NoSuchElementException {
        return requireOrder(order).place;
    }

    public int told(int wave, int what) throws NoSuchElementException, IllegalArgumentException {
        Wave asked = requireWave(wave);
        switch (what) {
            case 0: return secondsOf(asked);
            case 1: return savedOf(asked);
            case 2: return asked.size;
            case 3: return dueOf(asked);
            case 4: return asked.carrier;
            case 5: return asked.released ? 1 : 0;
            case 6: return finishedOf(asked);
            default: throw new IllegalArgumentException("nothing such is told of a wave");
        }
    }

    public int member(int wave, int i) throws NoSuchElementException {
        Wave asked = requireWave(wave);
        if (i < 0 || i >= asked.size) {
            throw new NoSuchElementException("no such order in the wave");
        }
        return asked.members[i];
    }

    public int replenish(int wave, int i) throws NoSuchElementException, IllegalArgumentException {
        requireWave(wave);
        requireNotNegative(i);
        return lackedGood(wave, i);
    }

    public int lacks(int wave, int good) throws NoSuchElementException, IllegalArgumentException {
        requireWave(wave);
        requireRange(good, 0, GOODS - 1);
        return lackOf(wave, good);
    }

    public int release(int wave) throws NoSuchElementException, IllegalStateException {
        Wave leaving = requireWave(wave);
        requirePlanned(leaving);
        if (!allFit(leaving)) {
            return NO_HOUR;
        }
        if (lackedGood(wave, 0) != NONE) {
            return NO_GOODS;
        }
        leaving.released = true;
        return 0;
    }

    public int done(int order) throws NoSuchElementException, IllegalStateException {
        Order picked = requireOrder(order);
        if (!isReleased(picked) || picked.finished) {
            throw new IllegalStateException("the order is not in a released wave, or it is done");
        }
        picked.finished = true;
        takeFromStock(picked);
        Wave its = waves[picked.place - 1];
        return its.size - finishedOf(its);
    }

    public boolean change(int order, int due) throws NoSuchElementException, IllegalArgumentException, IllegalStateException {
        Order changed = requireOrder(order);
        requireRange(due, 0, LAST_TIME);
        if (changed.place == LATE || changed.finished) {
            throw new IllegalStateException("the order is late or done");
        }
        changed.due = due;
        boolean leaves = changed.place != FREE && !isReleased(changed) && !fits(changed);
        if (leaves) {
            takeOut(order, FREE);
        }
        return leaves;
    }

    public int join(int wave, int other) throws NoSuchElementException, IllegalStateException {
        Wave first = requireWave(wave);
        Wave second = requireWave(other);
        requirePlanned(first);
        requirePlanned(second);
        if (wave == other || first.carrier != second.carrier) {
            throw new IllegalStateException("the waves are the same one, or their carriers differ");
        }
        trial.empty();
        trial.addAll(first);
        trial.addAll(second);
        int seconds = secondsOf(trial);
        if (seconds > capacity) {
            throw new IllegalStateException("the waves have more seconds than the capacity");
        }
        for (int i = 0; i < second.size; i++) {
            orders[second.members[i]].place = wave;
        }
        first.addAll(second);
        second.empty();
        return seconds;
    }

    public int cutoff(int carrier, int time) throws IllegalArgumentException {
        requireRange(carrier, 0, CARRIERS - 1);
        requireRange(time, 0, LAST_TIME);
        int left = 0;
        for (int o = 0; o < orderCount; o++) {
            Order order = orders[o];
            if (order.carrier == carrier && order.due <= time && order.place != LATE && !isReleased(order)) {
                takeOut(o, LATE);
                left++;
            }
        }
        return left;
    }

    public int late(int i) throws IllegalArgumentException {
        requireNotNegative(i);
        int passed = 0;
        for (int o = 0; o < orderCount; o++) {
            if (orders[o].place != LATE) {
                continue;
            }
            if (passed == i) {
                return o;
            }
            passed++;
        }
        return NONE;
    }

    public int count(int what) {
        switch (what) {
            case 0: return orderCount;
            case 1: return wavesWithOrders();
            case 2: return ordersAt(FREE);
            case 3: return ordersAt(LATE);
            case 4: return finishedOrders();
            case 5: return savedBehind(0);
            case 6: return capacity;
            default: return NONE;
        }
    }

    private static void requireRange(int number, int first, int last) throws IllegalArgumentException {
        if (number < first || number > last) {
            throw new IllegalArgumentException("a number is outside its range");
        }
    }

    private static void requireNotNegative(int i) throws IllegalArgumentException {
        if (i < 0) {
            throw new IllegalArgumentException("a place is below 0");
        }
    }

    private static void requireFree(Order order) throws IllegalStateException {
        if (order.place != FREE) {
            throw new IllegalStateException("the order is not free");
        }
    }

    private static void requirePlanned(Wave wave) throws IllegalStateException {
        if (wave.released) {
            throw new IllegalStateException("the wave is released");
        }
    }

    private Order requireOrder(int order) throws NoSuchElementException {
        if (order < 0 || order >= orderCount) {
            throw new NoSuchElementException("no such order");
        }
        return orders[order];
    }

    private Wave requireWave(int wave) throws NoSuchElementException {
        if (wave < 1 || wave > waveCount || waves[wave - 1].size == 0) {
            throw new NoSuchElementException("no such wave");
        }
        return waves[wave - 1];
    }

    private boolean fits(Order order) {
        return docks.have(order.carrier, order.due);
    }

    private boolean allFit(Wave wave) {
        for (int i = 0; i < wave.size; i++) {
            if (!fits(orders[wave.members[i]])) {
                return false;
            }
        }
        return true;
    }

    private boolean isReleased(Order order) {
        return order.place >= 1 && order.place <= waveCount && waves[order.place - 1].released;
    }

    private void takeOut(int number, int newPlace) {
        Order order = orders[number];
        if (order.place >= 1 && order.place <= waveCount) {
            waves[order.place - 1].remove(number);
        }
        order.place = newPlace;
    }

    /** Answers whether there was room for all waves; if not, some of them stand and must be undone. */
    private boolean makeWaves() {
        for (int o = 0; o < orderCount; o++) {
            orders[o].looked = false;
        }
        for (int round = 0; round < orderCount; round++) {
            int beginning = nextBeginning();
            if (beginning == NONE) {
                return true;
            }
            orders[beginning].looked = true;
            if (orders[beginning].seconds > capacity) {
                continue;
            }
            if (waveCount >= MOST_WAVES) {
                return false;
            }
            makeWave(beginning);
        }
        return true;
    }

    private boolean mayBePlanned(Order order) {
        return order.place == FREE && fits(order);
    }

    private int nextBeginning() {
        int best = NONE;
        for (int o = 0; o < orderCount; o++) {
            Order order = orders[o];
            if (mayBePlanned(order) && !order.looked && (best == NONE || order.due < orders[best].due)) {
                best = o;
            }
        }
        return best;
    }

    private void makeWave(int beginning) {
        Wave wave = waves[waveCount];
        waveCount++;
        wave.carrier = orders[beginning].carrier;
        int room = capacity;
        int next = beginning;
        for (int n = 0; n < MOST_ORDERS && next != NONE; n++) {
            Order order = orders[next];
            room -= order.seconds - greatestSaving(order, wave, wave.size);
            wave.add(next);
            order.place = waveCount;
            next = bestAddition(wave, room);
        }
    }

    private int bestAddition(Wave wave, int room) {
        int best = NONE;
        int bestSaving = 0;
        for (int o = 0; o < orderCount; o++) {
            Order order = orders[o];
            if (!mayBePlanned(order) || order.carrier != wave.carrier) {
                continue;
            }
            int saving = greatestSaving(order, wave, wave.size);
            if (order.seconds - saving > room) {
                continue;
            }
            boolean sooner = best != NONE && saving == bestSaving && order.due < orders[best].due;
            if (best == NONE || saving > bestSaving || sooner) {
                best = o;
                bestSaving = saving;
            }
        }
        return best;
    }

    private void undoWavesBehind(int kept) {
        for (int o = 0; o < orderCount; o++) {
            if (orders[o].place > kept) {
                orders[o].place = FREE;
            }
        }
        for (int w = kept; w < waveCount; w++) {
            waves[w].empty();
        }
        waveCount = kept;
    }

    /** The greatest saving of an order with one of a wave's first so many. */
    private int greatestSaving(Order order, Wave wave, int first) {
        int greatest = 0;
        for (int i = 0; i < first && i < wave.size; i++) {
            greatest = Math.max(greatest, order.savingWith(orders[wave.members[i]]));
        }
        return greatest;
    }

    private int savedOf(Wave wave) {
        int saved = 0;
        for (int i = 1; i < wave.size; i++) {
            saved += greatestSaving(orders[wave.members[i]], wave, i);
        }
        return saved;
    }

    private int savedBehind(int passed) {
        int saved = 0;
        for (int w = passed; w < waveCount; w++) {
            saved += savedOf(waves[w]);
        }
        return saved;
    }

    private int secondsOf(Wave wave) {
        int seconds = 0;
        for (int i = 0; i < wave.size; i++) {
            seconds += orders[wave.members[i]].seconds;
        }
        return seconds - savedOf(wave);
    }

    private int dueOf(Wave wave) {
        int due = LAST_TIME;
        for (int i = 0; i < wave.size; i++) {
            due = Math.min(due, orders[wave.members[i]].due);
        }
        return due;
    }

    private int finishedOf(Wave wave) {
        int finished = 0;
        for (int i = 0; i < wave.size; i++) {
            if (orders[wave.members[i]].finished) {
                finished++;
            }
        }
        return finished;
    }

    private int wantedOf(Wave wave, int good) {
        int wanted = 0;
        for (int i = 0; i < wave.size; i++) {
            Order order = orders[wave.members[i]];
            if (!order.finished) {
                wanted += order.wanted[good];
            }
        }
        return wanted;
    }

    private int lackOf(int number, int good) {
        int left = pieces[good];
        for (int w = 0; w < waveCount; w++) {
            if (w != number - 1 && waves[w].released) {
                left -= wantedOf(waves[w], good);
            }
        }
        return Math.max(0, wantedOf(waves[number - 1], good) - Math.max(0, left));
    }

    private int lackedGood(int number, int i) {
        int passed = 0;
        for (int good = 0; good < GOODS; good++) {
            if (lackOf(number, good) == 0) {
                continue;
            }
            if (passed == i) {
                return good;
            }
            passed++;
        }
        return NONE;
    }

    private void takeFromStock(Order order) {
        for (int good = 0; good < GOODS; good++) {
            pieces[good] = Math.max(0, pieces[good] - order.wanted[good]);
        }
    }

    private int wavesWithOrders() {
        int found = 0;
        for (int w = 0; w < waveCount; w++) {
            if (waves[w].size > 0) {
                found++;
            }
        }
        return found;
    }

    private int ordersAt(int place) {
        int found = 0;
        for (int o = 0; o < orderCount; o++) {
            if (orders[o].place == place) {
                found++;
            }
        }
        return found;
    }

    private int finishedOrders() {
        int found = 0;
        for (int o = 0; o < orderCount; o++) {
            if (orders[o].finished) {
                found++;
            }
        }
        return found;
    }

    private static final class Order {
        private int due;
        private int zone;
        private int seconds;
        private int carrier;
        private int lines;
        /** Pieces of each good; 0 where there is no line. */
        private final int[] wanted;
        private int place;
        private boolean finished;
        /** Looked at as a beginning in the planning that goes on. */
        private boolean looked;

        private Order() {
            wanted = new int[GOODS];
            place = FREE;
        }

        private int savingWith(Order other) {
            int saving = 0;
            if (zone == other.zone) {
                saving = SAVED_IN_ONE_ZONE;
            } else if (Math.abs(zone - other.zone) == 1) {
                saving = SAVED_IN_NEXT_ZONE;
            }
            for (int good = 0; good < GOODS; good++) {
                if (wanted[good] > 0 && other.wanted[good] > 0) {
                    saving += SAVED_BY_A_GOOD;
                }
            }
            return Math.min(saving, Math.min(seconds, other.seconds));
        }
    }

    private static final class Wave {
        /** Numbers of orders, as they came into it. */
        private final int[] members;
        private int size;
        private int carrier;
        private boolean released;

        private Wave() {
            members = new int[MOST_ORDERS];
        }

        private void add(int order) {
            if (size < MOST_ORDERS) {
                members[size] = order;
                size++;
            }
        }

        private void addAll(Wave other) {
            for (int i = 0; i < other.size; i++) {
                add(other.members[i]);
            }
        }

        private void remove(int order) {
            int kept = 0;
            for (int i = 0; i < size; i++) {
                if (members[i] != order) {
                    members[kept] = members[i];
                    kept++;
                }
            }
            size = kept;
        }

        private void empty() {
            size = 0;
        }
    }

    /** The hours of all carriers' docks. */
    private static final class Docks {
        private final int[] carriers;
        private final int[] from;
        private final int[] to;
        private int size;

        private Docks() {
            carriers = new int[MOST_HOURS];
            from = new int[MOST_HOURS];
            to = new int[MOST_HOURS];
        }

        private void open(int carrier, int first, int last) {
            if (size < MOST_HOURS) {
                carriers[size] = carrier;
                from[size] = first;
                to[size] = last;
                size++;
            }
        }

        private int hoursOf(int carrier) {
            int found = 0;
            for (int i = 0; i < size; i++) {
                if (carriers[i] == carrier) {
                    found++;
                }
            }
            return found;
        }

        private boolean have(int carrier, int time) {
            for (int i = 0; i < size; i++) {
                if (carriers[i] == carrier && from[i] <= time && time <= to[i]) {
                    return true;
                }
            }
            return false;
        }
    }
}
