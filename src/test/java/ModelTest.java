import java.util.NoSuchElementException;
import java.util.Random;
import java.util.function.LongSupplier;

/** Runs of random calls: each answer of the class is compared with the model's. */
public final class ModelTest {
    private static final long THROWN = Long.MIN_VALUE + 7;
    private static int wrong = 0;
    private static final int[] KINDS_SEEN = new int[32];
    private static int stuckSeen = 0;

    private final Random random;
    private final KnapsackCore real = new KnapsackCore();
    private final Model model = new Model();
    private final StringBuilder told = new StringBuilder();
    private final int flavour;
    private boolean failed = false;

    private ModelTest(long seed) {
        random = new Random(seed);
        flavour = (int) (seed % 8);
    }

    private static long answer(LongSupplier call) {
        try {
            return call.getAsLong();
        } catch (NoSuchElementException e) {
            return THROWN;
        }
    }

    private void same(int kind, String call, LongSupplier got, LongSupplier want) {
        long due = answer(want);
        long is = answer(got);
        KINDS_SEEN[kind - 1]++;
        stuckSeen += due == -2 ? 1 : 0;
        told.append(call).append(" = ").append(due).append('\n');
        if (is != due && !failed) {
            failed = true;
            wrong++;
            System.out.println("promise " + kind + ": " + call + " answered " + is + ", due is " + due
                    + " behind:\n" + told);
        }
    }

    private static long bit(boolean b) {
        return b ? 1 : 0;
    }

    private int oneOf(int... those) {
        return those[random.nextInt(those.length)];
    }

    private int weight() {
        switch (flavour) {
            case 0: return 1 + random.nextInt(6);
            case 1: return 1 + random.nextInt(40);
            case 2: return 1 + random.nextInt(1000);
            case 3: return 1 + random.nextInt(120000000);
            case 4: return oneOf(999999999, 147483649, 147483648, 1, 147483650, 500000000, 0, -1, 1000000000);
            case 5: return 10 * (1 + random.nextInt(10));
            case 6: return 1 + random.nextInt(30000);
            default: return oneOf(0, 1, 2, 7, 999999999, 1000000000, Integer.MIN_VALUE, Integer.MAX_VALUE, 30, 50);
        }
    }

    private int profitFor(int weight) {
        if (flavour == 6 || flavour == 5) {
            return weight + 10;
        }
        return flavour == 1 && random.nextBoolean() ? weight : weight();
    }

    private int someRoom() {
        long all = model.count(18);
        int pick = random.nextInt(10);
        if (pick == 0) {
            return oneOf(0, -1, 2000000000, 2000000001, Integer.MAX_VALUE, Integer.MIN_VALUE, 1, (int) model.count(1));
        }
        if (pick == 1) {
            return (int) Math.min(all + random.nextInt(3) - 1, Integer.MAX_VALUE);
        }
        return (int) (all * random.nextDouble() * 0.9);
    }

    private int someItem() {
        int items = (int) model.count(0);
        return random.nextInt(12) == 0 || items == 0
                ? oneOf(-1, items, items + 1, Integer.MAX_VALUE, Integer.MIN_VALUE, 59, 60) : random.nextInt(items);
    }

    private int someSet() {
        int sets = (int) model.count(10);
        return random.nextInt(12) == 0 || sets == 0
                ? oneOf(-1, sets, sets + 1, Integer.MAX_VALUE, Integer.MIN_VALUE, 1000) : random.nextInt(sets);
    }

    private int what(int greatest) {
        return random.nextInt(20) == 0 ? oneOf(-1, greatest + 1, Integer.MIN_VALUE, Integer.MAX_VALUE)
                : random.nextInt(greatest + 1);
    }

    private void add() {
        int w = weight();
        int p = profitFor(w);
        same(7, "add(" + w + ", " + p + ")", () -> real.add(w, p), () -> model.add(w, p));
    }

    private void room() {
        int v = someRoom();
        same(5, "room(" + v + ")", () -> bit(real.room(v)), () -> bit(model.room(v)));
    }

    private void act() {
        int v;
        switch (random.nextInt(16)) {
            case 0: case 1: case 2: case 3:
                add();
                break;
            case 4: case 5:
                room();
                break;
            case 6:
                v = oneOf(2, 3, 5, 10, 30, 100, 400, 1000, 1, 1001, 0, -5);
                same(6, "most(" + v + ")", () -> bit(real.most(v)), () -> bit(model.most(v)));
                break;
            case 7:
                v = someItem();
                same(8, "drop(" + v + ")", () -> real.drop(v), () -> model.drop(v));
                break;
            case 8: case 9: case 10: case 11:
                same(9, "step()", real::step, model::step);
                break;
            case 12: case 13:
                same(10, "solve()", real::solve, model::solve);
                break;
            default:
                same(11, "undo()", real::undo, model::undo);
                break;
        }
    }

    private void askAboutItems() {
        int item = someItem();
        int w = what(4);
        same(13, "item(" + item + ", " + w + ")", () -> real.item(item, w), () -> model.item(item, w));
        same(14, "reduced(" + item + ")", () -> real.reduced(item), () -> model.reduced(item));
        same(15, "order(" + item + ")", () -> real.order(item), () -> model.order(item));
        same(18, "share(" + item + ")", () -> real.share(item), () -> model.share(item));
    }

    private void askAboutSets() {
        int set = someSet();
        for (int k = 0; k < 5; k++) {
            int w = k;
            same(16, "set(" + set + ", " + w + ")", () -> real.set(set, w), () -> model.set(set, w));
        }
        int w = what(4);
        same(16, "set(" + set + ", " + w + ")", () -> real.set(set, w), () -> model.set(set, w));
        same(17, "best()", real::best, model::best);
    }

    private void askAboutNumbers() {
        same(19, "linear()", real::linear, model::linear);
        int upper = random.nextInt(3) == 0 ? random.nextInt() : random.nextInt(100) - 50;
        int lower = random.nextInt(3) == 0 ? random.nextInt() : random.nextInt(30) - 15;
        same(20, "part(" + upper + ", " + lower + ")", () -> real.part(upper, lower), () -> model.part(upper, lower));
        int w = what(2);
        same(21, "greedy(" + w + ")", () -> real.greedy(w), () -> model.greedy(w));
        int s = what(2);
        same(22, "swap(" + s + ")", () -> real.swap(s), () -> model.swap(s));
    }

    private void askAboutFront() {
        same(23, "front(-1, 0)", () -> real.front(-1, 0), () -> model.front(-1, 0));
        long size = model.front(-1, 0);
        int k = size < 0 || random.nextInt(8) == 0 ? oneOf(-2, -1, (int) size, Integer.MAX_VALUE, Integer.MIN_VALUE)
                : random.nextInt((int) size);
        int w = what(3);
        same(23, "front(" + k + ", " + w + ")", () -> real.front(k, w), () -> model.front(k, w));
        same(23, "front(" + k + ", 3)", () -> real.front(k, 3), () -> model.front(k, 3));
    }

    private void askWhatWouldBe() {
        int room = someRoom();
        int item = someItem();
        int all = (int) model.count(19);
        int profit = random.nextInt(8) == 0 ? oneOf(-1, 0, all, Integer.MAX_VALUE, Integer.MIN_VALUE)
                : random.nextInt(all / 16 * 17 + 1 > 0 ? all / 16 * 17 + 1 : all);
        switch (random.nextInt(7)) {
            case 0:
                same(24, "other(" + room + ")", () -> real.other(room), () -> model.other(room));
                break;
            case 1:
                same(25, "without(" + item + ")", () -> real.without(item), () -> model.without(item));
                break;
            case 2:
                same(26, "with(" + item + ")", () -> real.with(item), () -> model.with(item));
                break;
            case 3:
                same(27, "least(" + profit + ")", () -> real.least(profit), () -> model.least(profit));
                break;
            default:
                same(28, "ahead(false)", () -> real.ahead(false), () -> model.ahead(false));
                same(28, "ahead(true)", () -> real.ahead(true), () -> model.ahead(true));
                break;
        }
    }

    private void keep() {
        int shelf = what(1);
        int place = what(3);
        boolean set = random.nextBoolean();
        int number = set ? someSet() : someItem();
        boolean profit = random.nextBoolean();
        int k = what(2);
        switch (random.nextInt(6)) {
            case 0: case 1: case 2:
                same(29, "shelve(" + shelf + ", " + place + ", " + set + ", " + number + ")",
                        () -> real.shelve(shelf, place, set, number), () -> model.shelve(shelf, place, set, number));
                break;
            case 3:
                same(31, "image(" + k + ")", () -> bit(real.image(k)), () -> bit(model.image(k)));
                break;
            case 4:
                same(32, "again(" + k + ")", () -> bit(real.again(k)), () -> bit(model.again(k)));
                break;
            default:
                break;
        }
        same(30, "shelved(" + shelf + ", " + place + ", " + profit + ")",
                () -> real.shelved(shelf, place, profit), () -> model.shelved(shelf, place, profit));
    }

    private void typeAll(String text) {
        int at = 0;
        while (at < text.length()) {
            int many = Math.min(text.length() - at, random.nextInt(4) == 0 ? 1 + random.nextInt(8) : 8);
            long eight = 0;
            for (int k = 0; k < 8; k++) {
                eight = eight << 8 | (k < many ? text.charAt(at + k) & 255 : 0);
            }
            at += many;
            long e = many < 7 && random.nextBoolean() ? eight | random.nextInt(256) : eight;
            same(2, "type(" + e + ")", () -> real.type(e), () -> model.type(e));
        }
    }

    private String blank() {
        return random.nextInt(3) == 0 ? "" : random.nextInt(6) == 0 ? "\n " : " ";
    }

    private String number() {
        switch (random.nextInt(40)) {
            case 0: return "0";
            case 1: return "1000000000";
            case 2: return "2000000001";
            case 3: return "9999999999";
            case 4: return "00000000001";
            case 5: return "0000000012";
            case 6: return "999999999";
            default: return String.valueOf(2 + random.nextInt(900));
        }
    }

    private String randomText() {
        StringBuilder text = new StringBuilder();
        int many = random.nextInt(4) == 0 ? 55 + random.nextInt(15) : random.nextInt(12);
        boolean sane = random.nextBoolean();
        for (int k = 0; k < many; k++) {
            int pick = many > 20 ? random.nextInt(70) : random.nextInt(8);
            if (pick == 0) {
                text.append("room").append(blank()).append(sane ? "77" : number()).append(blank()).append(';');
            } else if (pick == 1) {
                text.append("most").append(blank()).append(sane ? "12" : number()).append(blank()).append(';');
            } else {
                text.append("item").append(many > 20 ? "" : blank()).append(sane ? "3" : number()).append(' ')
                        .append(sane ? "4" : number()).append(blank()).append(";").append(many > 20 ? "" : blank());
            }
        }
        if (random.nextInt(3) == 0 && text.length() > 0) {
            int at = random.nextInt(text.length());
            if (random.nextBoolean()) {
                text.deleteCharAt(at);
            } else {
                text.insert(at, "; x0\nA\t~m".charAt(random.nextInt(9)));
            }
        }
        if (random.nextInt(15) == 0) {
            text.append((char) (1 + random.nextInt(255)));
        }
        return text.toString();
    }

    private void tell() {
        String text = randomText();
        if (text.length() > 320 && flavour != 7 && random.nextInt(3) != 0) {
            return;
        }
        typeAll(text);
        if (random.nextInt(5) == 0) {
            same(2, "type(0)", () -> real.type(0), () -> model.type(0));
        }
        same(3, "read()", real::read, model::read);
        same(4, "fault(false)", () -> real.fault(false), () -> model.fault(false));
        same(4, "fault(true)", () -> real.fault(true), () -> model.fault(true));
        same(12, "count(15)", () -> real.count(15), () -> model.count(15));
    }

    private void countAll() {
        for (int what = -1; what <= 20; what++) {
            int w = what;
            same(12, "count(" + w + ")", () -> real.count(w), () -> model.count(w));
        }
    }

    private void run(int calls) {
        same(1, "count(0)", () -> real.count(0), () -> model.count(0));
        countAll();
        int many = random.nextInt(flavour == 2 || flavour == 6 ? 45 : 14);
        for (int k = 0; k < many; k++) {
            add();
        }
        room();
        for (int k = 0; k < calls && !failed; k++) {
            switch (random.nextInt(14)) {
                case 0: case 1: case 2: case 3: case 4:
                    act();
                    break;
                case 5:
                    countAll();
                    break;
                case 6:
                    askAboutItems();
                    break;
                case 7: case 8:
                    askAboutSets();
                    break;
                case 9:
                    askAboutNumbers();
                    break;
                case 10:
                    if (random.nextInt(3) == 0) {
                        askAboutFront();
                    }
                    break;
                case 11:
                    askWhatWouldBe();
                    break;
                case 12:
                    keep();
                    break;
                default:
                    if (random.nextInt(6) == 0) {
                        tell();
                    }
                    break;
            }
        }
    }

    public static void main(String[] args) {
        int runs = args.length > 0 ? Integer.parseInt(args[0]) : 480;
        for (int seed = 0; seed < runs && wrong < 3; seed++) {
            new ModelTest(seed).run(160);
        }
        for (int k = 0; k < KINDS_SEEN.length; k++) {
            if (KINDS_SEEN[k] == 0) {
                wrong++;
                System.out.println("promise " + (k + 1) + " was never asked for");
            }
        }
        if (stuckSeen == 0) {
            wrong++;
            System.out.println("nothing was ever stuck");
        }
        System.out.println(wrong == 0 ? "all answers are the model's" : wrong + " runs went wrong");
        if (wrong != 0) {
            System.exit(1);
        }
    }
}
