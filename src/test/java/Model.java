import java.math.BigDecimal;
import java.math.BigInteger;
import java.math.RoundingMode;
import java.nio.charset.StandardCharsets;
import java.util.ArrayList;
import java.util.Comparator;
import java.util.List;
import java.util.NoSuchElementException;
import java.util.regex.Matcher;
import java.util.regex.Pattern;

/** The document written down as plainly as can be, slow and with all of Java's library: what the class is held to. */
final class Model {
    record Item(long weight, long profit) { }

    record Bag(long weight, long profit, long bits) {
        boolean dominates(Bag o) {
            if (weight == o.weight && profit == o.profit) {
                return Long.compareUnsigned(bits, o.bits) < 0;
            }
            return weight <= o.weight && profit >= o.profit;
        }
    }

    /** All from the items to the best set; every change makes a new one. */
    static final class Sack {
        final List<Item> items;
        final long room;
        final long most;
        final List<Integer> order = new ArrayList<>();
        int breakAt;
        Bag breakSet = new Bag(0, 0, 0);
        int from;
        int to;
        int steps;
        List<Bag> sets = new ArrayList<>();
        Bag best;

        Sack(List<Item> items, long room, long most) {
            this.items = List.copyOf(items);
            this.room = room;
            this.most = most;
            for (int k = 0; k < items.size(); k++) {
                order.add(k);
            }
            order.sort(Comparator.<Integer, BigDecimal>comparing(k -> efficiency(k)).reversed()
                    .thenComparing(Comparator.naturalOrder()));
            while (breakAt < order.size() && breakSet.weight + at(breakAt).weight <= room) {
                breakSet = with(breakSet, breakAt);
                breakAt++;
            }
            from = breakAt;
            to = breakAt - 1;
            sets.add(breakSet);
            best = breakSet;
        }

        private Sack(Sack o) {
            this(o.items, o.room, o.most);
            from = o.from;
            to = o.to;
            steps = o.steps;
            sets = new ArrayList<>(o.sets);
            best = o.best;
        }

        // 40 digits tell any two unlike quotients of numbers below 10^9 apart.
        BigDecimal efficiency(int k) {
            return new BigDecimal(items.get(k).profit)
                    .divide(new BigDecimal(items.get(k).weight), 40, RoundingMode.DOWN);
        }

        Item at(int place) {
            return items.get(order.get(place));
        }

        Bag with(Bag b, int place) {
            return new Bag(b.weight + at(place).weight, b.profit + at(place).profit, b.bits | 1L << place);
        }

        Bag less(Bag b, int place) {
            return new Bag(b.weight - at(place).weight, b.profit - at(place).profit, b.bits & ~(1L << place));
        }

        boolean proved() {
            return sets.isEmpty() || from == 0 && to == order.size() - 1;
        }

        boolean breakIsItem() {
            return breakAt < order.size();
        }

        static long quotient(long amount, Item by, RoundingMode way) {
            return new BigDecimal(BigInteger.valueOf(amount).multiply(BigInteger.valueOf(by.profit)))
                    .divide(new BigDecimal(by.weight), 0, way).longValueExact();
        }

        long bound(Bag b) {
            if (b.weight <= room) {
                return b.profit + (to + 1 < order.size()
                        ? quotient(room - b.weight, at(to + 1), RoundingMode.FLOOR) : 0);
            }
            return b.profit - quotient(b.weight - room, at(from - 1), RoundingMode.CEILING);
        }

        long linearBound() {
            return breakSet.profit + (breakIsItem()
                    ? quotient(room - breakSet.weight, at(breakAt), RoundingMode.FLOOR) : 0);
        }

        double linear() {
            double d = (double) breakSet.profit;
            if (breakIsItem()) {
                d = d + (double) (room - breakSet.weight) * (double) at(breakAt).profit / (double) at(breakAt).weight;
            }
            return d;
        }

        long reduced(int item) {
            if (!breakIsItem() || item < 0 || item >= items.size()) {
                return 0;
            }
            Item i = items.get(item);
            long left = room - breakSet.weight;
            if (order.indexOf(item) < breakAt) {
                return breakSet.profit - i.profit + quotient(left + i.weight, at(breakAt), RoundingMode.FLOOR);
            }
            return breakSet.profit + i.profit + quotient(left - i.weight, at(breakAt), RoundingMode.FLOOR);
        }

        boolean fixed(int item) {
            return breakIsItem() && reduced(item) <= best.profit;
        }

        static List<Bag> undominated(List<Bag> all) {
            List<Bag> left = new ArrayList<>();
            for (Bag b : all) {
                boolean dominated = false;
                for (Bag o : all) {
                    if (o != b && o.dominates(b)) {
                        dominated = true;
                        break;
                    }
                }
                if (!dominated) {
                    left.add(b);
                }
            }
            left.sort(Comparator.comparingLong(Bag::weight));
            return left;
        }

        /** The sack behind a step; null if it is stuck. */
        Sack stepped() {
            Sack s = new Sack(this);
            boolean right = steps % 2 == 0 && to != order.size() - 1 || from == 0;
            List<Bag> all = new ArrayList<>(sets);
            if (right) {
                s.to++;
                sets.forEach(b -> all.add(with(b, s.to)));
            } else {
                s.from--;
                sets.forEach(b -> all.add(less(b, s.from)));
            }
            s.sets = undominated(all);
            if (s.sets.size() > most) {
                return null;
            }
            for (Bag b : s.sets) {
                if (b.weight <= room && b.profit > s.best.profit) {
                    s.best = b;
                }
            }
            s.sets.removeIf(b -> b.weight > room && s.from == 0 || s.bound(b) <= s.best.profit);
            s.steps++;
            return s;
        }

        /** This sack and those behind each step that can be made, till it is proved or stuck. */
        List<Sack> toTheEnd() {
            List<Sack> way = new ArrayList<>();
            Sack s = this;
            while (s != null) {
                way.add(s);
                s = s.proved() ? null : s.stepped();
            }
            return way;
        }

        long optimum() {
            List<Sack> way = toTheEnd();
            Sack last = way.get(way.size() - 1);
            return last.proved() ? last.best.profit : -1;
        }

        /** Null if it is stuck. */
        List<Bag> front() {
            List<Bag> front = List.of(new Bag(0, 0, 0));
            for (int place = 0; place < order.size(); place++) {
                List<Bag> all = new ArrayList<>(front);
                for (Bag b : front) {
                    all.add(with(b, place));
                }
                front = undominated(all);
                if (front.size() > most) {
                    return null;
                }
            }
            return front;
        }

        static boolean corner(List<Bag> front, int k) {
            Bag m = front.get(k);
            for (int i = 0; i < k; i++) {
                for (int j = k + 1; j < front.size(); j++) {
                    Bag a = front.get(i);
                    Bag b = front.get(j);
                    BigInteger line = BigInteger.valueOf(a.profit).multiply(BigInteger.valueOf(b.weight - m.weight))
                            .add(BigInteger.valueOf(b.profit).multiply(BigInteger.valueOf(m.weight - a.weight)));
                    BigInteger own = BigInteger.valueOf(m.profit).multiply(BigInteger.valueOf(b.weight - a.weight));
                    if (own.compareTo(line) <= 0) {
                        return false;
                    }
                }
            }
            return true;
        }
    }

    record Kept(Sack sack, String text, int fault, int place, List<Bag> shelves) { }

    private Sack sack = new Sack(List.of(), 100, 400);
    private String text = "";
    private int fault = 0;
    private int faultPlace = -1;
    private List<Bag> shelves = noShelves();
    private final List<Sack> past = new ArrayList<>();
    private final Kept[] images = new Kept[3];

    private static List<Bag> noShelves() {
        List<Bag> none = new ArrayList<>();
        for (int k = 0; k < 8; k++) {
            none.add(null);
        }
        return none;
    }

    private void act(Sack next) {
        past.add(sack);
        if (past.size() > 8) {
            past.remove(0);
        }
        sack = next;
    }

    private boolean has(int item) {
        return item >= 0 && item < sack.items.size();
    }

    private List<Item> itemsWithout(int item) {
        List<Item> left = new ArrayList<>(sack.items);
        left.remove(item);
        return left;
    }

    int type(long eight) {
        StringBuilder more = new StringBuilder();
        for (int shift = 56; shift >= 0; shift -= 8) {
            int b = (int) (eight >> shift & 255);
            if (b == 0) {
                break;
            }
            more.append((char) b);
        }
        if (text.length() + more.length() > 600) {
            return -1;
        }
        text += more;
        return text.length();
    }

    private static final Pattern TOKEN = Pattern.compile("[ \n]*+(?:([a-z]++)|([0-9]{1,10}+)(?![0-9])|(;)|(\\z))");

    record Told(int place, String word, BigInteger number, boolean sign) { }

    /** Fault and place of the text; the items, room, most told are put where they belong. */
    private int[] examine(List<Item> items, long[] roomMost) {
        List<Told> tokens = new ArrayList<>();
        List<List<Told>> commands = new ArrayList<>();
        int at = 0;
        while (true) {
            Matcher m = TOKEN.matcher(text).region(at, text.length());
            int begin = at;
            while (begin < text.length() && " \n".indexOf(text.charAt(begin)) >= 0) {
                begin++;
            }
            if (!m.lookingAt()) {
                return new int[] {1, begin};
            }
            if (m.group(4) != null) {
                if (!tokens.isEmpty()) {
                    return new int[] {1, text.length()};
                }
                break;
            }
            Told t = new Told(begin, m.group(1), m.group(2) == null ? null : new BigInteger(m.group(2)),
                    m.group(3) != null);
            tokens.add(t);
            String shape = shapeOf(tokens);
            boolean begins = List.of("room", "most", "item", "roomN", "mostN", "itemN", "itemNN").contains(shape);
            boolean whole = List.of("roomN;", "mostN;", "itemNN;").contains(shape);
            if (!begins && !whole) {
                return new int[] {1, begin};
            }
            if (whole) {
                commands.add(List.copyOf(tokens));
                tokens.clear();
            }
            at = m.end();
        }
        return examineNumbers(commands, items, roomMost);
    }

    private static String shapeOf(List<Told> tokens) {
        StringBuilder shape = new StringBuilder();
        for (Told t : tokens) {
            shape.append(t.word != null ? t.word : t.number != null ? "N" : ";");
        }
        return shape.toString();
    }

    private static boolean between(BigInteger n, long least, long greatest) {
        return n.compareTo(BigInteger.valueOf(least)) >= 0 && n.compareTo(BigInteger.valueOf(greatest)) <= 0;
    }

    private static int[] examineNumbers(List<List<Told>> commands, List<Item> items, long[] roomMost) {
        BigInteger top = BigInteger.valueOf(Integer.MAX_VALUE);
        List<int[]> faults = new ArrayList<>();
        BigInteger[] sums = {BigInteger.ZERO, BigInteger.ZERO};
        int told = 0;
        for (List<Told> c : commands) {
            String word = c.get(0).word;
            if (!word.equals("item")) {
                boolean isRoom = word.equals("room");
                if (!between(c.get(1).number, isRoom ? 0 : 2, isRoom ? 2000000000L : 1000)) {
                    faults.add(new int[] {2, c.get(1).place});
                }
                roomMost[isRoom ? 0 : 1] = c.get(1).number.longValue();
                continue;
            }
            told++;
            if (told > 60) {
                faults.add(new int[] {3, c.get(0).place});
            }
            for (int k = 0; k < 2; k++) {
                BigInteger n = c.get(k + 1).number;
                if (!between(n, 1, 999999999)) {
                    faults.add(new int[] {2, c.get(k + 1).place});
                    continue;
                }
                sums[k] = sums[k].add(n);
                if (sums[k].compareTo(top) > 0) {
                    faults.add(new int[] {4, c.get(k + 1).place});
                }
            }
            items.add(new Item(c.get(1).number.longValue(), c.get(2).number.longValue()));
        }
        faults.sort(Comparator.<int[]>comparingInt(f -> f[1]).thenComparingInt(f -> f[0]));
        return faults.isEmpty() ? new int[] {0, -1} : faults.get(0);
    }

    int read() {
        List<Item> items = new ArrayList<>();
        long[] roomMost = {100, 400};
        int[] found = examine(items, roomMost);
        text = "";
        fault = found[0];
        faultPlace = found[1];
        if (fault != 0) {
            return -1;
        }
        sack = new Sack(items, roomMost[0], roomMost[1]);
        past.clear();
        return items.size();
    }

    int fault(boolean place) {
        return place ? faultPlace : fault;
    }

    boolean room(int v) {
        if (v < 0 || v > 2000000000 || v == sack.room) {
            return false;
        }
        act(new Sack(sack.items, v, sack.most));
        return true;
    }

    boolean most(int v) {
        if (v < 2 || v > 1000 || v == sack.most) {
            return false;
        }
        act(new Sack(sack.items, sack.room, v));
        return true;
    }

    int add(int weight, int profit) {
        if (weight < 1 || weight > 999999999 || profit < 1 || profit > 999999999 || sack.items.size() == 60
                || count(18) + (long) weight > Integer.MAX_VALUE || count(19) + (long) profit > Integer.MAX_VALUE) {
            return -1;
        }
        List<Item> more = new ArrayList<>(sack.items);
        more.add(new Item(weight, profit));
        act(new Sack(more, sack.room, sack.most));
        return more.size() - 1;
    }

    int drop(int item) {
        if (!has(item)) {
            return -1;
        }
        act(new Sack(itemsWithout(item), sack.room, sack.most));
        return sack.items.size();
    }

    int step() {
        if (sack.proved()) {
            return -1;
        }
        Sack next = sack.stepped();
        if (next == null) {
            return -2;
        }
        act(next);
        return sack.sets.size();
    }

    int solve() {
        List<Sack> way = sack.toTheEnd();
        if (way.size() == 1) {
            return -1;
        }
        act(way.get(way.size() - 1));
        return way.size() - 1;
    }

    int undo() {
        if (past.isEmpty()) {
            return -1;
        }
        sack = past.remove(past.size() - 1);
        return past.size();
    }

    long count(int what) {
        return switch (what) {
            case 0 -> sack.items.size();
            case 1 -> sack.room;
            case 2 -> sack.most;
            case 3 -> sack.breakAt;
            case 4 -> sack.breakSet.weight;
            case 5 -> sack.breakSet.profit;
            case 6 -> sack.linearBound();
            case 7 -> sack.from;
            case 8 -> sack.to;
            case 9 -> sack.steps;
            case 10 -> sack.sets.size();
            case 11 -> sack.proved() && !sack.items.isEmpty() ? 1 : 0;
            case 12 -> sack.best.profit;
            case 13 -> sack.best.weight;
            case 14 -> {
                long n = 0;
                for (int k = 0; k < sack.items.size(); k++) {
                    n += sack.fixed(k) ? 1 : 0;
                }
                yield n;
            }
            case 15 -> past.size();
            case 16 -> text.getBytes(StandardCharsets.ISO_8859_1).length;
            case 17 -> sack.sets.stream().filter(b -> b.weight <= sack.room).count();
            case 18 -> sack.items.stream().mapToLong(Item::weight).sum();
            case 19 -> sack.items.stream().mapToLong(Item::profit).sum();
            default -> -1;
        };
    }

    long item(int item, int what) {
        if (!has(item) || what < 0 || what > 4) {
            throw new NoSuchElementException();
        }
        int place = sack.order.indexOf(item);
        return switch (what) {
            case 0 -> sack.items.get(item).weight;
            case 1 -> sack.items.get(item).profit;
            case 2 -> place;
            case 3 -> sack.best.bits >> place & 1;
            default -> sack.fixed(item) ? 1 : 0;
        };
    }

    long reduced(int item) {
        return sack.reduced(item);
    }

    int order(int place) {
        return has(place) ? sack.order.get(place) : -1;
    }

    long set(int set, int what) {
        if (set < 0 || set >= sack.sets.size() || what < 0 || what > 4) {
            throw new NoSuchElementException();
        }
        Bag b = sack.sets.get(set);
        return switch (what) {
            case 0 -> b.weight;
            case 1 -> b.profit;
            case 2 -> sack.bound(b);
            case 3 -> b.bits;
            default -> Long.bitCount(b.bits);
        };
    }

    long best() {
        return sack.best.bits;
    }

    int share(int item) {
        if (!has(item)) {
            return 0;
        }
        return Float.floatToRawIntBits((float) sack.items.get(item).profit / (float) sack.items.get(item).weight);
    }

    long linear() {
        return Double.doubleToRawLongBits(sack.linear());
    }

    int part(int upper, int lower) {
        return lower == 0 ? 0 : (int) (sack.linear() * (double) upper / (double) lower);
    }

    long greedy(int what) {
        Bag taken = new Bag(0, 0, 0);
        for (int place = 0; place < sack.order.size(); place++) {
            Bag more = sack.with(taken, place);
            taken = more.weight <= sack.room ? more : taken;
        }
        return what == 0 ? taken.profit : what == 1 ? taken.weight : what == 2 ? taken.bits : -1;
    }

    int swap(int what) {
        long most = 0;
        int out = -1;
        int in = -1;
        for (int g = 0; g < sack.order.size(); g++) {
            for (int c = 0; c < sack.order.size(); c++) {
                if ((sack.best.bits >> g & 1) == 0 || (sack.best.bits >> c & 1) == 1) {
                    continue;
                }
                Bag next = sack.with(sack.less(sack.best, g), c);
                if (next.weight <= sack.room && next.profit - sack.best.profit > most) {
                    most = next.profit - sack.best.profit;
                    out = sack.order.get(g);
                    in = sack.order.get(c);
                }
            }
        }
        return what == 0 ? (int) most : what == 1 ? out : what == 2 ? in : -1;
    }

    private Sack frontOf;
    private List<Bag> frontMade;

    long front(int k, int what) {
        if (frontOf != sack) {
            frontOf = sack;
            frontMade = sack.front();
        }
        List<Bag> front = frontMade;
        if (front == null) {
            return -2;
        }
        if (k == -1 && what == 0) {
            return front.size();
        }
        if (k < 0 || k >= front.size() || what < 0 || what > 3) {
            return -1;
        }
        Bag b = front.get(k);
        return what == 0 ? b.weight : what == 1 ? b.profit : what == 2 ? b.bits : Sack.corner(front, k) ? 1 : 0;
    }

    long other(int room) {
        return room < 0 || room > 2000000000 ? -1 : new Sack(sack.items, room, sack.most).optimum();
    }

    long without(int item) {
        return has(item) ? new Sack(itemsWithout(item), sack.room, sack.most).optimum() : -1;
    }

    long with(int item) {
        if (!has(item) || sack.items.get(item).weight > sack.room) {
            return -1;
        }
        long rest = new Sack(itemsWithout(item), sack.room - sack.items.get(item).weight, sack.most).optimum();
        return rest < 0 ? -1 : rest + sack.items.get(item).profit;
    }

    long least(int profit) {
        if (profit < 0) {
            return -1;
        }
        long low = 0;
        long high = Math.min(count(18), 2000000000L);
        long asked = other((int) high);
        if (asked < 0 || asked < profit) {
            return -1;
        }
        while (low < high) {
            long middle = (low + high) / 2;
            asked = other((int) middle);
            if (asked < 0) {
                return -1;
            }
            if (asked >= profit) {
                high = middle;
            } else {
                low = middle + 1;
            }
        }
        return low;
    }

    int ahead(boolean sets) {
        List<Sack> way = sack.toTheEnd();
        return sets ? way.stream().mapToInt(s -> s.sets.size()).max().getAsInt() : way.size() - 1;
    }

    int shelve(int shelf, int place, boolean set, int number) {
        if (shelf < 0 || shelf > 1 || place < 0 || place > 3) {
            return -1;
        }
        if (number < 0 || number >= (set ? sack.sets.size() : sack.items.size())) {
            return -1;
        }
        if (set != (shelf == 1)) {
            return -2;
        }
        Bag thing = set ? sack.sets.get(number)
                : new Bag(sack.items.get(number).weight, sack.items.get(number).profit, 0);
        shelves.set(shelf * 4 + place, thing);
        return 0;
    }

    long shelved(int shelf, int place, boolean profit) {
        if (shelf < 0 || shelf > 1 || place < 0 || place > 3 || shelves.get(shelf * 4 + place) == null) {
            return -1;
        }
        Bag thing = shelves.get(shelf * 4 + place);
        return profit ? thing.profit : thing.weight;
    }

    boolean image(int k) {
        if (k < 0 || k > 2) {
            return false;
        }
        images[k] = new Kept(sack, text, fault, faultPlace, new ArrayList<>(shelves));
        return true;
    }

    boolean again(int k) {
        if (k < 0 || k > 2 || images[k] == null) {
            return false;
        }
        sack = images[k].sack;
        text = images[k].text;
        fault = images[k].fault;
        faultPlace = images[k].place;
        shelves = new ArrayList<>(images[k].shelves);
        past.clear();
        return true;
    }
}
