import java.util.Arrays;
import java.util.NoSuchElementException;

/** A knapsack that is solved exactly from its core; what each call promises stands in the document. */
public final class KnapsackCore {
    public static final int NONE = -1;

    private static final int STUCK = -2;
    private static final int OTHER_KIND = -2;
    private static final int ITEMS_AT_MOST = 60;
    private static final int GREATEST_NUMBER = 999999999;
    private static final int GREATEST_INT = 2147483647;
    private static final int FIRST_ROOM = 100;
    private static final int GREATEST_ROOM = 2000000000;
    private static final int FIRST_MOST = 400;
    private static final int LEAST_MOST = 2;
    private static final int GREATEST_MOST = 1000;
    private static final int TEXT_AT_MOST = 600;
    private static final int BYTES_OF_LONG = 8;
    private static final int HALVINGS_AT_MOST = 32;
    private static final int DIGITS_AT_MOST = 10;
    private static final int ACTS_AT_MOST = 8;
    private static final int IMAGES = 3;
    private static final int SHELVES = 2;
    private static final int SHELF_PLACES = 4;
    private static final int SHELF_OF_SETS = 1;

    private static final int FRONT_UNKNOWN = 0;
    private static final int FRONT_MADE = 1;
    private static final int FRONT_STUCK = 2;

    private final State now;
    private final State[] images;
    private final Load[] past;
    private int acts;
    private final Core core;
    private final Load supposed;
    private final Core trial;
    private final Reader reader;
    private Sets front;
    private Sets frontSpare;
    private int frontState;

    public KnapsackCore() {
        now = new State();
        images = new State[IMAGES];
        past = new Load[ACTS_AT_MOST];
        for (int k = 0; k < ACTS_AT_MOST; k++) {
            past[k] = new Load();
        }
        core = new Core();
        supposed = new Load();
        trial = new Core();
        reader = new Reader();
        front = new Sets();
        frontSpare = new Sets();
        makeCoreAnew();
    }

    // ---- the text

    public int type(long eight) {
        int more = 0;
        while (more < BYTES_OF_LONG && byteAt(eight, more) != 0) {
            more++;
        }
        if (now.length + more > TEXT_AT_MOST) {
            return NONE;
        }
        for (int k = 0; k < more; k++) {
            now.text[now.length + k] = byteAt(eight, k);
        }
        now.length += more;
        return now.length;
    }

    public int read() {
        reader.readAll(now.text, now.length);
        now.length = 0;
        now.fault = reader.fault;
        now.faultPlace = reader.faultPlace;
        if (reader.fault != 0) {
            return NONE;
        }
        now.load.copyFrom(reader.told);
        acts = 0;
        makeCoreAnew();
        return now.load.items;
    }

    public int fault(boolean place) {
        return place ? now.faultPlace : now.fault;
    }

    // ---- acts

    public boolean room(int v) {
        if (!canBeRoom(v) || v == now.load.room) {
            return false;
        }
        remember();
        now.load.room = v;
        beginAgain();
        return true;
    }

    public boolean most(int v) {
        if (!canBeMost(v) || v == now.load.most) {
            return false;
        }
        remember();
        now.load.most = v;
        beginAgain();
        return true;
    }

    public int add(int weight, int profit) {
        if (!now.load.canTake(weight, profit)) {
            return NONE;
        }
        remember();
        now.load.put(weight, profit);
        beginAgain();
        return now.load.items - 1;
    }

    public int drop(int item) {
        if (!now.load.has(item)) {
            return NONE;
        }
        remember();
        now.load.takeOut(item);
        beginAgain();
        return now.load.items;
    }

    public int step() {
        if (core.isProved()) {
            return NONE;
        }
        if (!core.widen()) {
            return STUCK;
        }
        remember();
        now.load.steps = core.steps;
        return core.sets.size;
    }

    public int solve() {
        int before = core.steps;
        core.widenToTheEnd();
        if (core.steps == before) {
            return NONE;
        }
        remember();
        now.load.steps = core.steps;
        return core.steps - before;
    }

    public int undo() {
        if (acts < 1) {
            return NONE;
        }
        acts--;
        now.load.copyFrom(past[acts]);
        makeCoreAnew();
        return acts;
    }

    // ---- what there is

    public int count(int what) {
        switch (what) {
            case 0: return now.load.items;
            case 1: return now.load.room;
            case 2: return now.load.most;
            case 3: return core.ranked.breakPlace;
            case 4: return core.ranked.breakWeight;
            case 5: return core.ranked.breakProfit;
            case 6: return linearBound();
            case 7: return core.from;
            case 8: return core.to;
            case 9: return core.steps;
            case 10: return core.sets.size;
            case 11: return core.isProved() && now.load.items > 0 ? 1 : 0;
            case 12: return core.bestProfit;
            case 13: return core.bestWeight;
            case 14: return countFixed();
            case 15: return acts;
            case 16: return now.length;
            case 17: return core.countFitting();
            case 18: return (int) now.load.allWeights();
            case 19: return (int) now.load.allProfits();
            default: return NONE;
        }
    }

    public int item(int item, int what) throws NoSuchElementException {
        if (!now.load.has(item)) {
            throw new NoSuchElementException("there is no such item");
        }
        switch (what) {
            case 0: return now.load.weights[item];
            case 1: return now.load.profits[item];
            case 2: return core.ranked.placeOf[item];
            case 3: return core.bestHas(core.ranked.placeOf[item]) ? 1 : 0;
            case 4: return isFixed(core.ranked.placeOf[item]) ? 1 : 0;
            default: throw new NoSuchElementException("an item has no such thing");
        }
    }

    public long reduced(int item) {
        if (!now.load.has(item) || !core.ranked.breakIsItem()) {
            return 0;
        }
        return core.ranked.reducedAt(core.ranked.placeOf[item]);
    }

    public int order(int place) {
        return now.load.has(place) ? core.ranked.itemAt[place] : NONE;
    }

    public long set(int set, int what) throws NoSuchElementException {
        if (!core.sets.has(set)) {
            throw new NoSuchElementException("there is no such set");
        }
        switch (what) {
            case 0: return core.sets.weights[set];
            case 1: return core.sets.profits[set];
            case 2: return core.boundOf(set);
            case 3: return core.sets.bits[set];
            case 4: return Long.bitCount(core.sets.bits[set]);
            default: throw new NoSuchElementException("a set has no such thing");
        }
    }

    public long best() {
        return core.bestBits;
    }

    public int share(int item) {
        if (!now.load.has(item) || now.load.weights[item] < 1) {
            return 0;
        }
        return bitsOfFloat((float) now.load.profits[item] / (float) now.load.weights[item]);
    }

    public long linear() {
        return bitsOfDouble(linearValue());
    }

    public int part(int upper, int lower) {
        if (lower == 0) {
            return 0;
        }
        return (int) (linearValue() * (double) upper / (double) lower);
    }

    public long greedy(int what) {
        Ranked ranked = core.ranked;
        long weight = 0;
        long profit = 0;
        long bits = 0;
        for (int place = 0; place < ranked.items; place++) {
            if (weight + ranked.weights[place] <= ranked.room) {
                weight += ranked.weights[place];
                profit += ranked.profits[place];
                bits |= 1L << place;
            }
        }
        switch (what) {
            case 0: return profit;
            case 1: return weight;
            case 2: return bits;
            default: return NONE;
        }
    }

    public int swap(int what) {
        if (what < 0 || what > 2) {
            return NONE;
        }
        int most = 0;
        int leaving = NONE;
        int coming = NONE;
        for (int out = 0; out < now.load.items; out++) {
            int in = core.bestHas(out) ? bestInsteadOf(out) : NONE;
            if (in != NONE && core.ranked.profits[in] - core.ranked.profits[out] > most) {
                most = core.ranked.profits[in] - core.ranked.profits[out];
                leaving = core.ranked.itemAt[out];
                coming = core.ranked.itemAt[in];
            }
        }
        if (what == 0) {
            return most;
        }
        return what == 1 ? leaving : coming;
    }

    public long front(int k, int what) {
        makeFront();
        if (frontState == FRONT_STUCK) {
            return STUCK;
        }
        if (k == NONE && what == 0) {
            return front.size;
        }
        if (!front.has(k)) {
            return NONE;
        }
        switch (what) {
            case 0: return front.weights[k];
            case 1: return front.profits[k];
            case 2: return front.bits[k];
            case 3: return front.isCorner(k) ? 1 : 0;
            default: return NONE;
        }
    }

    // ---- what would be

    public int other(int room) {
        if (!canBeRoom(room)) {
            return NONE;
        }
        supposed.copyFrom(now.load);
        return optimumOfSupposed(room);
    }

    public int without(int item) {
        if (!now.load.has(item)) {
            return NONE;
        }
        supposed.copyFrom(now.load);
        supposed.takeOut(item);
        return optimumOfSupposed(now.load.room);
    }

    public int with(int item) {
        if (!now.load.has(item) || now.load.weights[item] > now.load.room) {
            return NONE;
        }
        supposed.copyFrom(now.load);
        supposed.takeOut(item);
        int others = optimumOfSupposed(now.load.room - now.load.weights[item]);
        return others == NONE ? NONE : others + now.load.profits[item];
    }

    public int least(int profit) {
        if (profit < 0) {
            return NONE;
        }
        supposed.copyFrom(now.load);
        int low = 0;
        int high = (int) Math.min(now.load.allWeights(), (long) GREATEST_ROOM);
        int optimum = optimumOfSupposed(high);
        if (optimum == NONE || optimum < profit) {
            return NONE;
        }
        for (int k = 0; k < HALVINGS_AT_MOST && low < high; k++) {
            int middle = low + (high - low) / 2;
            optimum = optimumOfSupposed(middle);
            if (optimum == NONE) {
                return NONE;
            }
            if (optimum >= profit) {
                high = middle;
            } else {
                low = middle + 1;
            }
        }
        return high;
    }

    public int ahead(boolean sets) {
        trial.begin(now.load);
        trial.widenTo(core.steps);
        int most = trial.widenToTheEnd();
        return sets ? most : trial.steps - core.steps;
    }

    // ---- shelves

    public int shelve(int shelf, int place, boolean set, int number) {
        if (!isShelfPlace(shelf, place)) {
            return NONE;
        }
        if (set ? !core.sets.has(number) : !now.load.has(number)) {
            return NONE;
        }
        if (set != (shelf == SHELF_OF_SETS)) {
            return OTHER_KIND;
        }
        int at = shelf * SHELF_PLACES + place;
        now.shelfWeights[at] = set ? core.sets.weights[number] : now.load.weights[number];
        now.shelfProfits[at] = set ? core.sets.profits[number] : now.load.profits[number];
        return 0;
    }

    public int shelved(int shelf, int place, boolean profit) {
        if (!isShelfPlace(shelf, place)) {
            return NONE;
        }
        int at = shelf * SHELF_PLACES + place;
        return profit ? now.shelfProfits[at] : now.shelfWeights[at];
    }

    // ---- kept

    public boolean image(int k) {
        if (k < 0 || k >= IMAGES) {
            return false;
        }
        if (images[k] == null) {
            images[k] = new State();
        }
        images[k].copyFrom(now);
        return true;
    }

    public boolean again(int k) {
        if (k < 0 || k >= IMAGES || images[k] == null) {
            return false;
        }
        now.copyFrom(images[k]);
        acts = 0;
        makeCoreAnew();
        return true;
    }

    // ---- inside

    private static byte byteAt(long eight, int k) {
        return (byte) (eight >>> (56 - 8 * k));
    }

    private static boolean canBeRoom(long v) {
        return v >= 0 && v <= GREATEST_ROOM;
    }

    private static boolean canBeMost(long v) {
        return v >= LEAST_MOST && v <= GREATEST_MOST;
    }

    private static boolean canBeItemsNumber(long v) {
        return v >= 1 && v <= GREATEST_NUMBER;
    }

    private static boolean isShelfPlace(int shelf, int place) {
        return shelf >= 0 && shelf < SHELVES && place >= 0 && place < SHELF_PLACES;
    }

    private void remember() {
        if (acts == ACTS_AT_MOST) {
            Load oldest = past[0];
            for (int k = 1; k < ACTS_AT_MOST; k++) {
                past[k - 1] = past[k];
            }
            acts--;
            past[acts] = oldest;
        }
        past[acts].copyFrom(now.load);
        acts++;
    }

    private void beginAgain() {
        now.load.steps = 0;
        core.begin(now.load);
        frontState = FRONT_UNKNOWN;
    }

    // Steps are the same each time they are made, so their number is all that was kept of the core.
    private void makeCoreAnew() {
        core.begin(now.load);
        core.widenTo(now.load.steps);
        frontState = FRONT_UNKNOWN;
    }

    private int linearBound() {
        Ranked ranked = core.ranked;
        long more = ranked.breakIsItem() ? ranked.worthDown(ranked.breakPlace, ranked.roomLeft()) : 0;
        return (int) (ranked.breakProfit + more);
    }

    private double linearValue() {
        Ranked ranked = core.ranked;
        double profit = (double) ranked.breakProfit;
        if (!ranked.breakIsItem() || ranked.weights[ranked.breakPlace] < 1) {
            return profit;
        }
        double left = (double) ranked.roomLeft();
        return profit + left * (double) ranked.profits[ranked.breakPlace] / (double) ranked.weights[ranked.breakPlace];
    }

    private boolean isFixed(int place) {
        return core.ranked.breakIsItem() && core.ranked.reducedAt(place) <= core.bestProfit;
    }

    private int countFixed() {
        int fixed = 0;
        for (int place = 0; place < now.load.items; place++) {
            fixed += isFixed(place) ? 1 : 0;
        }
        return fixed;
    }

    private int bestInsteadOf(int out) {
        Ranked ranked = core.ranked;
        long left = (long) ranked.room - core.bestWeight + ranked.weights[out];
        int found = NONE;
        for (int in = 0; in < ranked.items; in++) {
            if (!core.bestHas(in) && ranked.weights[in] <= left
                    && (found == NONE || ranked.profits[in] > ranked.profits[found])) {
                found = in;
            }
        }
        return found;
    }

    private void makeFront() {
        if (frontState != FRONT_UNKNOWN) {
            return;
        }
        front.size = 0;
        front.put(0, 0, 0L);
        Ranked ranked = core.ranked;
        for (int place = 0; place < ranked.items; place++) {
            if (!frontSpare.mergeOf(front, ranked.weights[place], ranked.profits[place], 1L << place, now.load.most)) {
                frontState = FRONT_STUCK;
                return;
            }
            Sets made = frontSpare;
            frontSpare = front;
            front = made;
        }
        frontState = FRONT_MADE;
    }

    private int optimumOfSupposed(int room) {
        supposed.room = room;
        trial.begin(supposed);
        trial.widenToTheEnd();
        return trial.isProved() ? trial.bestProfit : NONE;
    }

    // The library's own way to a float's bits is not among what the program may use.
    private static int bitsOfFloat(float value) {
        if (!(value > 0f)) {
            return 0;
        }
        float mantissa = value;
        int exponent = 127;
        for (int k = 0; k < 126 && mantissa >= 2f; k++) {
            mantissa = mantissa / 2f;
            exponent++;
        }
        for (int k = 0; k < 126 && mantissa < 1f; k++) {
            mantissa = mantissa * 2f;
            exponent--;
        }
        return exponent << 23 | (int) ((mantissa - 1f) * 8388608f);
    }

    private static long bitsOfDouble(double value) {
        if (!(value > 0.0)) {
            return 0L;
        }
        double mantissa = value;
        long exponent = 1023;
        for (int k = 0; k < 1022 && mantissa >= 2.0; k++) {
            mantissa = mantissa / 2.0;
            exponent++;
        }
        for (int k = 0; k < 1022 && mantissa < 1.0; k++) {
            mantissa = mantissa * 2.0;
            exponent--;
        }
        return exponent << 52 | (long) ((mantissa - 1.0) * 4503599627370496.0);
    }

    /** Items and numbers, and how many steps were made: enough to make the core anew, so undo keeps no sets. */
    private static final class Load {
        final int[] weights = new int[ITEMS_AT_MOST];
        final int[] profits = new int[ITEMS_AT_MOST];
        int items;
        int room;
        int most;
        int steps;

        Load() {
            room = FIRST_ROOM;
            most = FIRST_MOST;
        }

        void copyFrom(Load other) {
            System.arraycopy(other.weights, 0, weights, 0, other.items);
            System.arraycopy(other.profits, 0, profits, 0, other.items);
            items = other.items;
            room = other.room;
            most = other.most;
            steps = other.steps;
        }

        void makeAsAtFirst() {
            items = 0;
            room = FIRST_ROOM;
            most = FIRST_MOST;
            steps = 0;
        }

        boolean has(int item) {
            return item >= 0 && item < items;
        }

        boolean canTake(int weight, int profit) {
            return items < ITEMS_AT_MOST && canBeItemsNumber(weight) && canBeItemsNumber(profit)
                    && allWeights() + weight <= GREATEST_INT && allProfits() + profit <= GREATEST_INT;
        }

        void put(int weight, int profit) {
            if (items < ITEMS_AT_MOST) {
                weights[items] = weight;
                profits[items] = profit;
                items++;
            }
        }

        void takeOut(int item) {
            if (has(item)) {
                System.arraycopy(weights, item + 1, weights, item, items - item - 1);
                System.arraycopy(profits, item + 1, profits, item, items - item - 1);
                items--;
            }
        }

        long allWeights() {
            return sumOf(weights);
        }

        long allProfits() {
            return sumOf(profits);
        }

        private long sumOf(int[] row) {
            long sum = 0;
            for (int k = 0; k < items; k++) {
                sum += row[k];
            }
            return sum;
        }

        boolean isBetter(int item, int other) {
            return (long) profits[item] * weights[other] > (long) profits[other] * weights[item];
        }
    }

    /** The items in their order, and where it breaks. */
    private static final class Ranked {
        final int[] itemAt = new int[ITEMS_AT_MOST];
        final int[] placeOf = new int[ITEMS_AT_MOST];
        final int[] weights = new int[ITEMS_AT_MOST];
        final int[] profits = new int[ITEMS_AT_MOST];
        int items;
        int room;
        int breakPlace;
        int breakWeight;
        int breakProfit;

        void rank(Load load) {
            items = load.items;
            room = load.room;
            for (int item = 0; item < items; item++) {
                int place = item;
                while (place > 0 && load.isBetter(item, itemAt[place - 1])) {
                    itemAt[place] = itemAt[place - 1];
                    place--;
                }
                itemAt[place] = item;
            }
            for (int place = 0; place < items; place++) {
                placeOf[itemAt[place]] = place;
                weights[place] = load.weights[itemAt[place]];
                profits[place] = load.profits[itemAt[place]];
            }
            findBreak();
        }

        private void findBreak() {
            breakPlace = 0;
            breakWeight = 0;
            breakProfit = 0;
            while (breakPlace < items && (long) breakWeight + weights[breakPlace] <= room) {
                breakWeight += weights[breakPlace];
                breakProfit += profits[breakPlace];
                breakPlace++;
            }
        }

        boolean breakIsItem() {
            return breakPlace < items;
        }

        long roomLeft() {
            return (long) room - breakWeight;
        }

        /** What an amount of room is worth by the efficiency at a place, rounded down, also below 0. */
        long worthDown(int place, long amount) {
            if (place < 0 || place >= items || weights[place] < 1) {
                return 0;
            }
            return Math.floorDiv(amount * profits[place], (long) weights[place]);
        }

        long reducedAt(int place) {
            if (place < 0 || place >= items) {
                return 0;
            }
            if (place < breakPlace) {
                return (long) breakProfit - profits[place] + worthDown(breakPlace, roomLeft() + weights[place]);
            }
            return (long) breakProfit + profits[place] + worthDown(breakPlace, roomLeft() - weights[place]);
        }
    }

    /** A row of sets, by weight rising; none dominates another, so profits rise, too. */
    private static final class Sets {
        private static final int FIRST_LENGTH = 16;

        int[] weights = new int[FIRST_LENGTH];
        int[] profits = new int[FIRST_LENGTH];
        long[] bits = new long[FIRST_LENGTH];
        int size;

        boolean has(int set) {
            return set >= 0 && set < size;
        }

        void put(int weight, int profit, long itsBits) {
            // Rows grow as they are needed: few objects ever need long ones, and what is made is not given back.
            if (size >= weights.length) {
                int length = 2 * weights.length;
                weights = Arrays.copyOf(weights, length);
                profits = Arrays.copyOf(profits, length);
                bits = Arrays.copyOf(bits, length);
            }
            weights[size] = weight;
            profits[size] = profit;
            bits[size] = itsBits;
            size++;
        }

        void move(int set, int place) {
            weights[place] = weights[set];
            profits[place] = profits[set];
            bits[place] = bits[set];
        }

        /**
         * Makes this row of an old one's sets and of further ones, each of which differs from its old one by the
         * weight, profit and bits given; false (and the row is of no use) if more than most are left.
         */
        boolean mergeOf(Sets old, int weight, int profit, long itsBits, int most) {
            size = 0;
            int a = 0;
            for (int k = 0; k < 2 * old.size; k++) {
                int b = k - a;
                boolean takesOld = b >= old.size
                        || a < old.size && old.isAhead(a, b, weight, profit, itsBits);
                int from = takesOld ? a : b;
                int itsProfit = old.profits[from] + (takesOld ? 0 : profit);
                a += takesOld ? 1 : 0;
                // All taken so far have no more weight: the one with most profit among them is the last.
                if (size > 0 && itsProfit <= profits[size - 1]) {
                    continue;
                }
                if (size >= most) {
                    return false;
                }
                put(old.weights[from] + (takesOld ? 0 : weight), itsProfit, old.bits[from] + (takesOld ? 0 : itsBits));
            }
            return true;
        }

        // Of like weights the one that dominates must come first, or it would come too late to drop the other.
        private boolean isAhead(int a, int b, int weight, int profit, long itsBits) {
            if (weights[a] != weights[b] + weight) {
                return weights[a] < weights[b] + weight;
            }
            if (profits[a] != profits[b] + profit) {
                return profits[a] > profits[b] + profit;
            }
            return bits[a] < bits[b] + itsBits;
        }

        // It is above all lines if the flattest way up to it is steeper than the steepest way on.
        boolean isCorner(int k) {
            if (k <= 0 || k >= size - 1) {
                return true;
            }
            int flattest = 0;
            for (int i = 1; i < k; i++) {
                if (isSteeper(flattest, k, i, k)) {
                    flattest = i;
                }
            }
            int steepest = k + 1;
            for (int j = k + 2; j < size; j++) {
                if (isSteeper(k, j, k, steepest)) {
                    steepest = j;
                }
            }
            return isSteeper(flattest, k, k, steepest);
        }

        private boolean isSteeper(int from, int to, int otherFrom, int otherTo) {
            long rise = (long) profits[to] - profits[from];
            long run = (long) weights[to] - weights[from];
            long otherRise = (long) profits[otherTo] - profits[otherFrom];
            long otherRun = (long) weights[otherTo] - weights[otherFrom];
            return rise * otherRun > otherRise * run;
        }
    }

    /** The core, as far as it has been widened. */
    private static final class Core {
        // No best set has so little profit: what has no bound goes in any case.
        private static final long NO_BOUND = -1L;

        final Ranked ranked = new Ranked();
        Sets sets = new Sets();
        Sets spare = new Sets();
        int most;
        int from;
        int to;
        int steps;
        int bestWeight;
        int bestProfit;
        long bestBits;

        void begin(Load load) {
            ranked.rank(load);
            most = load.most;
            from = ranked.breakPlace;
            to = from - 1;
            steps = 0;
            bestWeight = ranked.breakWeight;
            bestProfit = ranked.breakProfit;
            bestBits = (1L << from) - 1;
            sets.size = 0;
            sets.put(bestWeight, bestProfit, bestBits);
        }

        boolean isProved() {
            return sets.size == 0 || from == 0 && to == ranked.items - 1;
        }

        /** A step; false if none is made: it is proved or stuck. */
        boolean widen() {
            if (isProved()) {
                return false;
            }
            boolean right = steps % 2 == 0 && to < ranked.items - 1 || from == 0;
            int place = right ? to + 1 : from - 1;
            int sign = right ? 1 : -1;
            if (!spare.mergeOf(sets, sign * ranked.weights[place], sign * ranked.profits[place],
                    sign * (1L << place), most)) {
                return false;
            }
            Sets made = spare;
            spare = sets;
            sets = made;
            from = right ? from : place;
            to = right ? place : to;
            steps++;
            findBest();
            dropBoundedAway();
            return true;
        }

        void widenTo(int wanted) {
            for (int k = steps; k < wanted; k++) {
                widen();
            }
        }

        /** All steps that can be made; the most sets there were, those at the begin, too. */
        int widenToTheEnd() {
            int greatest = sets.size;
            for (int k = 0; k < ITEMS_AT_MOST && widen(); k++) {
                greatest = Math.max(greatest, sets.size);
            }
            return greatest;
        }

        int countFitting() {
            int fitting = 0;
            while (fitting < sets.size && sets.weights[fitting] <= ranked.room) {
                fitting++;
            }
            return fitting;
        }

        // Profits rise with weights: the last set that fits has most profit of them.
        private void findBest() {
            int last = countFitting() - 1;
            if (last >= 0 && sets.profits[last] > bestProfit) {
                bestWeight = sets.weights[last];
                bestProfit = sets.profits[last];
                bestBits = sets.bits[last];
            }
        }

        private void dropBoundedAway() {
            int kept = 0;
            for (int k = 0; k < sets.size; k++) {
                if (boundOf(k) > bestProfit) {
                    sets.move(k, kept);
                    kept++;
                }
            }
            sets.size = kept;
        }

        long boundOf(int set) {
            long left = (long) ranked.room - sets.weights[set];
            if (left < 0 && from < 1) {
                return NO_BOUND;
            }
            // What is over, rounded up and taken off, is the same as room left below 0, rounded down and put on.
            return sets.profits[set] + ranked.worthDown(left < 0 ? from - 1 : to + 1, left);
        }

        boolean bestHas(int place) {
            return place >= 0 && place < ranked.items && (bestBits >>> place & 1L) == 1L;
        }
    }

    /** Reads a text into a load; a fault of the first kind strikes all others. */
    private static final class Reader {
        private static final int WORD = 0;
        private static final int ROOM = 1;
        private static final int MOST = 2;
        private static final int WEIGHT = 3;
        private static final int PROFIT = 4;
        private static final int SIGN = 5;

        private static final int CAN_NOT_STAND = 1;
        private static final int CAN_NOT_BE = 2;
        private static final int ITEM_TOO_MANY = 3;
        private static final int SUM_NO_INT = 4;

        final Load told = new Load();
        int fault;
        int faultPlace;
        private int due;
        private int weight;

        void readAll(byte[] text, int length) {
            told.makeAsAtFirst();
            fault = 0;
            faultPlace = NONE;
            due = WORD;
            weight = 0;
            int place = behindBlanks(text, 0, length);
            // Each token has a byte at least, so there are no more of them than bytes.
            for (int tokens = 0; tokens < length && place < length; tokens++) {
                int end = endOfToken(text, place, length);
                if (end <= place || !takesToken(text, place, end)) {
                    fault = CAN_NOT_STAND;
                    faultPlace = place;
                    return;
                }
                place = behindBlanks(text, end, length);
            }
            if (due != WORD) {
                fault = CAN_NOT_STAND;
                faultPlace = length;
            }
        }

        private static int behindBlanks(byte[] text, int place, int length) {
            int end = place;
            while (end < length && (text[end] == 32 || text[end] == 10)) {
                end++;
            }
            return end;
        }

        private static boolean isLetter(byte b) {
            return b >= 'a' && b <= 'z';
        }

        private static boolean isDigit(byte b) {
            return b >= '0' && b <= '9';
        }

        /** The place behind the token that begins at a place; that place itself if none does. */
        private static int endOfToken(byte[] text, int place, int length) {
            int end = place;
            if (isLetter(text[place])) {
                while (end < length && isLetter(text[end])) {
                    end++;
                }
                return end;
            }
            if (isDigit(text[place])) {
                while (end < length && isDigit(text[end])) {
                    end++;
                }
                return end - place > DIGITS_AT_MOST ? place : end;
            }
            return text[place] == ';' ? place + 1 : place;
        }

        private boolean takesToken(byte[] text, int place, int end) {
            if (isLetter(text[place])) {
                return due == WORD && takesWord(text, place, end);
            }
            if (isDigit(text[place])) {
                return takesNumber(valueOf(text, place, end), place);
            }
            if (due != SIGN) {
                return false;
            }
            due = WORD;
            return true;
        }

        private boolean takesWord(byte[] text, int place, int end) {
            if (spells(text, place, end, "room")) {
                due = ROOM;
                return true;
            }
            if (spells(text, place, end, "most")) {
                due = MOST;
                return true;
            }
            if (!spells(text, place, end, "item")) {
                return false;
            }
            due = WEIGHT;
            if (told.items >= ITEMS_AT_MOST) {
                note(ITEM_TOO_MANY, place);
            }
            return true;
        }

        private static boolean spells(byte[] text, int place, int end, String word) {
            if (end - place != word.length()) {
                return false;
            }
            for (int k = 0; k < word.length(); k++) {
                if (text[place + k] != word.charAt(k)) {
                    return false;
                }
            }
            return true;
        }

        private static long valueOf(byte[] text, int place, int end) {
            long value = 0;
            for (int k = place; k < end; k++) {
                value = 10 * value + (text[k] - '0');
            }
            return value;
        }

        private boolean takesNumber(long value, int place) {
            switch (due) {
                case ROOM:
                    takeRoom(value, place);
                    due = SIGN;
                    return true;
                case MOST:
                    takeMost(value, place);
                    due = SIGN;
                    return true;
                case WEIGHT:
                    noteItemsNumber(value, told.allWeights(), place);
                    weight = (int) value;
                    due = PROFIT;
                    return true;
                case PROFIT:
                    noteItemsNumber(value, told.allProfits(), place);
                    takeItem((int) value);
                    due = SIGN;
                    return true;
                default:
                    return false;
            }
        }

        private void takeRoom(long value, int place) {
            if (canBeRoom(value)) {
                told.room = (int) value;
            } else {
                note(CAN_NOT_BE, place);
            }
        }

        private void takeMost(long value, int place) {
            if (canBeMost(value)) {
                told.most = (int) value;
            } else {
                note(CAN_NOT_BE, place);
            }
        }

        private void noteItemsNumber(long value, long sum, int place) {
            if (!canBeItemsNumber(value)) {
                note(CAN_NOT_BE, place);
            } else if (sum + value > GREATEST_INT) {
                note(SUM_NO_INT, place);
            }
        }

        // Behind a fault nothing that is told counts any more, but the text must still be looked through.
        private void takeItem(int profit) {
            if (fault == 0) {
                told.put(weight, profit);
            }
        }

        private void note(int kind, int place) {
            if (fault == 0) {
                fault = kind;
                faultPlace = place;
            }
        }
    }

    /** All that an image keeps. */
    private static final class State {
        final Load load = new Load();
        final byte[] text = new byte[TEXT_AT_MOST];
        int length;
        int fault;
        int faultPlace;
        final int[] shelfWeights = new int[SHELVES * SHELF_PLACES];
        final int[] shelfProfits = new int[SHELVES * SHELF_PLACES];

        State() {
            faultPlace = NONE;
            Arrays.fill(shelfWeights, NONE);
            Arrays.fill(shelfProfits, NONE);
        }

        void copyFrom(State other) {
            load.copyFrom(other.load);
            System.arraycopy(other.text, 0, text, 0, other.length);
            length = other.length;
            fault = other.fault;
            faultPlace = other.faultPlace;
            System.arraycopy(other.shelfWeights, 0, shelfWeights, 0, shelfWeights.length);
            System.arraycopy(other.shelfProfits, 0, shelfProfits, 0, shelfProfits.length);
        }
    }
}
