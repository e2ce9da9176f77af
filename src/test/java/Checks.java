import java.util.ArrayList;
import java.util.List;
import java.util.NoSuchElementException;
import java.util.function.Consumer;
import java.util.function.LongSupplier;
import java.util.function.Supplier;

/** What the tests share: how an answer is compared, how a text is typed, all that can be asked of an object. */
abstract class Checks {
    static final long THROWS = Long.MIN_VALUE + 7;
    static final int LOW = Integer.MIN_VALUE;
    static final int HIGH = Integer.MAX_VALUE;

    private static int wrong = 0;
    private static int sentences = 0;
    private static String sentence = "";
    private static int checksOfSentence = 1;

    static void fail(String what) {
        wrong++;
        System.out.println(sentence.isEmpty() ? what : sentence + "\n    " + what);
    }

    /** What follows tests this sentence of the document, up to the next one. */
    static void sentence(String place, String words) {
        if (checksOfSentence == 0) {
            fail("nothing tests this sentence");
        }
        sentences++;
        sentence = place + ": '" + words + "'";
        checksOfSentence = 0;
    }

    static long answer(LongSupplier call) {
        try {
            return call.getAsLong();
        } catch (NoSuchElementException e) {
            return THROWS;
        }
    }

    static void due(String call, LongSupplier got, long want) {
        checksOfSentence++;
        long is = answer(got);
        if (is != want) {
            fail(call + " answered " + is + ", due is " + want);
        }
    }

    static void due(int promise, String call, LongSupplier got, long want) {
        due("promise " + promise + ": " + call, got, want);
    }

    static void dueTrue(String call, boolean got) {
        due(call, () -> got ? 1 : 0, 1);
    }

    static void dueFalse(String call, boolean got) {
        due(call, () -> got ? 1 : 0, 0);
    }

    static void dueTrue(int promise, String call, boolean got) {
        dueTrue("promise " + promise + ": " + call, got);
    }

    static void dueFalse(int promise, String call, boolean got) {
        dueFalse("promise " + promise + ": " + call, got);
    }

    static long eight(String s) {
        long eight = 0;
        for (int k = 0; k < 8; k++) {
            eight = eight << 8 | (k < s.length() ? s.charAt(k) & 255 : 0);
        }
        return eight;
    }

    static KnapsackCore typed(KnapsackCore x, String text) {
        for (int at = 0; at < text.length(); at += 8) {
            x.type(eight(text.substring(at, Math.min(at + 8, text.length()))));
        }
        return x;
    }

    /** A room, then a weight and a profit of each item. */
    static KnapsackCore sack(int room, int... numbers) {
        KnapsackCore x = new KnapsackCore();
        x.room(room);
        for (int k = 0; k + 1 < numbers.length; k += 2) {
            x.add(numbers[k], numbers[k + 1]);
        }
        return x;
    }

    /** Items 5 10, 4 12, 6 9, 3 6 and a room of 10: the order is 1 0 3 2, the break 2, the linear bound 24. */
    static KnapsackCore example() {
        KnapsackCore x = new KnapsackCore();
        x.add(5, 10);
        x.add(4, 12);
        x.add(6, 9);
        x.add(3, 6);
        x.room(10);
        return x;
    }

    private static void ask(List<String> rows, String call, LongSupplier question) {
        rows.add(call + " = " + answer(question));
    }

    /** All that can be asked, a row an answer; what is asked changes nothing. */
    static List<String> seen(KnapsackCore x) {
        List<String> rows = new ArrayList<>();
        for (int what = -1; what <= 20; what++) {
            int w = what;
            ask(rows, "count(" + w + ")", () -> x.count(w));
        }
        ask(rows, "fault(false)", () -> x.fault(false));
        ask(rows, "fault(true)", () -> x.fault(true));
        ask(rows, "best()", x::best);
        ask(rows, "linear()", x::linear);
        ask(rows, "part(2, 3)", () -> x.part(2, 3));
        ask(rows, "least(9)", () -> x.least(9));
        ask(rows, "other(9)", () -> x.other(9));
        ask(rows, "ahead(false)", () -> x.ahead(false));
        ask(rows, "ahead(true)", () -> x.ahead(true));
        for (int k = 0; k < 3; k++) {
            int w = k;
            ask(rows, "greedy(" + w + ")", () -> x.greedy(w));
            ask(rows, "swap(" + w + ")", () -> x.swap(w));
        }
        seenItems(rows, x);
        seenRows(rows, x);
        for (int k = 0; k < 8; k++) {
            int shelf = k / 4;
            int place = k % 4;
            ask(rows, "shelved(" + shelf + ", " + place + ", false)", () -> x.shelved(shelf, place, false));
            ask(rows, "shelved(" + shelf + ", " + place + ", true)", () -> x.shelved(shelf, place, true));
        }
        return rows;
    }

    private static void seenItems(List<String> rows, KnapsackCore x) {
        for (int k = 0; k < x.count(0); k++) {
            int item = k;
            for (int what = 0; what < 5; what++) {
                int w = what;
                ask(rows, "item(" + item + ", " + w + ")", () -> x.item(item, w));
            }
            ask(rows, "reduced(" + item + ")", () -> x.reduced(item));
            ask(rows, "order(" + item + ")", () -> x.order(item));
            ask(rows, "share(" + item + ")", () -> x.share(item));
            ask(rows, "without(" + item + ")", () -> x.without(item));
            ask(rows, "with(" + item + ")", () -> x.with(item));
        }
    }

    private static void seenRows(List<String> rows, KnapsackCore x) {
        for (int k = 0; k < x.count(10); k++) {
            for (int what = 0; what < 5; what++) {
                int set = k;
                int w = what;
                ask(rows, "set(" + set + ", " + w + ")", () -> x.set(set, w));
            }
        }
        for (int k = -1; k < x.front(-1, 0); k++) {
            for (int what = 0; what < 4; what++) {
                int place = k;
                int w = what;
                ask(rows, "front(" + place + ", " + w + ")", () -> x.front(place, w));
            }
        }
    }

    /**
     * All that can be asked now, behind each undo(), and behind each again(): the object is of no use then. These are
     * more than the 512 calls that the document speaks of; both objects that are compared are asked the same.
     */
    static List<String> seenToTheGround(KnapsackCore x) {
        List<String> rows = seen(x);
        for (int k = 0; k < 9; k++) {
            ask(rows, "undo()", x::undo);
            rows.addAll(seen(x));
        }
        for (int k = 0; k < 3; k++) {
            int image = k;
            ask(rows, "again(" + image + ")", () -> x.again(image) ? 1 : 0);
            rows.addAll(seen(x));
        }
        ask(rows, "read()", x::read);
        rows.addAll(seen(x));
        return rows;
    }

    static void same(String what, List<String> is, List<String> want) {
        checksOfSentence++;
        for (int k = 0; k < Math.max(is.size(), want.size()); k++) {
            String a = k < is.size() ? is.get(k) : "nothing";
            String b = k < want.size() ? want.get(k) : "nothing";
            if (!a.equals(b)) {
                fail(what + ": " + a + ", due is " + b + " (row " + k + ")");
                return;
            }
        }
    }

    /** The call leaves nothing behind that could ever be seen. */
    static void changesNothing(String call, Supplier<KnapsackCore> made, Consumer<KnapsackCore> done) {
        KnapsackCore with = made.get();
        done.accept(with);
        same(call + " changes nothing", seenToTheGround(with), seenToTheGround(made.get()));
    }

    /** The call answers as is due and leaves nothing behind that could ever be seen. */
    static void refused(String call, Supplier<KnapsackCore> made, Call done, long want) {
        due(call, () -> done.on(made.get()), want);
        changesNothing(call, made, x -> answer(() -> done.on(x)));
    }

    interface Call {
        long on(KnapsackCore x);
    }

    /** Ends the test: with 1 if an answer was not as is due. */
    static void end(String allIsWell) {
        if (checksOfSentence == 0) {
            fail("nothing tests this sentence");
        }
        String many = sentences > 0 ? " (" + sentences + " sentences)" : "";
        System.out.println(wrong == 0 ? allIsWell + many : wrong + " answers are not as due");
        if (wrong != 0) {
            System.exit(1);
        }
    }
}
