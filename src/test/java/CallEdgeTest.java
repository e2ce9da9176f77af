import java.util.ArrayList;
import java.util.List;
import java.util.function.Supplier;

/** Each sentence of promises 1 and 5 to 32, and of terms 1 and 3, that names an edge or a call that is refused. */
public final class CallEdgeTest extends Checks {
    private static final int[] NO_ITEMS_NUMBER = {0, -1, 1000000000, LOW, HIGH};
    private static final int[] NO_ROOM = {-1, 2000000001, LOW, HIGH};
    private static final int[] NO_MOST = {1, 0, -1, 1001, LOW, HIGH};

    /** Something of all: items, two sets, shelves, two images, a text, a fault, seven acts. */
    private static KnapsackCore busy() {
        KnapsackCore x = typed(example(), "item 0 1;");
        x.read();
        x.image(2);
        x.most(300);
        x.step();
        x.shelve(0, 1, false, 2);
        x.shelve(1, 2, true, 1);
        x.image(0);
        return typed(x, "item 3 4;");
    }

    /** One step is made, the next one is stuck. */
    private static KnapsackCore stuck() {
        KnapsackCore x = example();
        x.most(2);
        x.step();
        return x;
    }

    private static KnapsackCore proved() {
        KnapsackCore x = example();
        x.solve();
        return x;
    }

    private static KnapsackCore full() {
        KnapsackCore x = new KnapsackCore();
        for (int k = 0; k < 60; k++) {
            x.add(1 + k, 2 + k);
        }
        return x;
    }

    /** All weights together are 2147483647, all profits 3. */
    private static KnapsackCore heavy() {
        return sack(2000000000, 999999999, 1, 999999999, 1, 147483649, 1);
    }

    /** All profits together are 2147483647, all weights 3. */
    private static KnapsackCore dear() {
        return sack(2, 1, 999999999, 1, 999999999, 1, 147483649);
    }

    private static void newObject() {
        sentence("Promise 1", "No ITEMS, ROOM as at first");
        KnapsackCore x = new KnapsackCore();
        long[] counts = {0, 100, 400, 0, 0, 0, 0, 0, -1, 0, 1, 0, 0, 0, 0, 0, 0, 1, 0, 0};
        for (int what = 0; what < counts.length; what++) {
            int w = what;
            due("count(" + w + ")", () -> x.count(w), counts[w]);
        }
        due("item(0, 0)", () -> x.item(0, 0), THROWS);
        due("set(0, 0)", () -> x.set(0, 0), 0);
        due("swap(1)", () -> x.swap(1), -1);
        due("linear()", x::linear, 0);
        due("least(0)", () -> x.least(0), 0);
        due("other(2000000000)", () -> x.other(2000000000), 0);
        for (int k = 0; k < 8; k++) {
            int at = k;
            due("shelved, " + at, () -> x.shelved(at / 4, at % 4, false), -1);
        }
        KnapsackCore busy = busy();
        same("another object is no matter", seenToTheGround(new KnapsackCore()), seenToTheGround(x));
        due("nor is this one for the other", () -> busy.count(0), 4);
    }

    private static void items() {
        sentence("Terms 1", "ITEMS, at most 60, numbered from 0 on as they come");
        KnapsackCore x = new KnapsackCore();
        for (int k = 0; k < 60; k++) {
            int number = k;
            due("add, the number " + number, () -> x.add(1 + number, 1), number);
        }
        due("count(0)", () -> x.count(0), 60);
        due("item(59, 0)", () -> x.item(59, 0), 60);
        due("drop of one", () -> x.drop(30), 59);
        due("then there is room for one", () -> x.add(7, 7), 59);

        sentence("Terms 1; Promise 7", "a WEIGHT and a PROFIT, 1 to 999999999 each; NONE: numbers that can not be");
        KnapsackCore edges = new KnapsackCore();
        due("add(1, 999999999)", () -> edges.add(1, 999999999), 0);
        due("add(999999999, 1)", () -> edges.add(999999999, 1), 1);
        for (int no : NO_ITEMS_NUMBER) {
            refused("add(" + no + ", 1)", CallEdgeTest::busy, y -> y.add(no, 1), -1);
            refused("add(1, " + no + ")", CallEdgeTest::busy, y -> y.add(1, no), -1);
        }

        sentence("Promise 7", "NONE: there are 60");
        refused("add(1, 1) of a 61st", CallEdgeTest::full, y -> y.add(1, 1), -1);

        sentence("Terms 1; Promise 7", "All WEIGHTS together are ints; NONE: sums would be no ints");
        due("just an int", () -> heavy().count(18), HIGH);
        refused("add(1, 1)", CallEdgeTest::heavy, y -> y.add(1, 1), -1);
        refused("add(999999999, 1)", CallEdgeTest::heavy, y -> y.add(999999999, 1), -1);
        refused("add(147483650, 1), 1 too much", () -> sack(5, 999999999, 1, 999999999, 1),
                y -> y.add(147483650, 1), -1);
        KnapsackCore freed = heavy();
        freed.drop(2);
        due("as much as has gone", () -> freed.add(147483649, 1), 2);

        sentence("Terms 1; Promise 7", "all PROFITS together are ints; NONE: sums would be no ints");
        due("just an int", () -> dear().count(19), HIGH);
        refused("add(1, 1)", CallEdgeTest::dear, y -> y.add(1, 1), -1);
        refused("add(1, 999999999)", CallEdgeTest::dear, y -> y.add(1, 999999999), -1);
        refused("add(1, 147483650), 1 too much", () -> sack(5, 1, 999999999, 1, 999999999),
                y -> y.add(1, 147483650), -1);

        sentence("Promise 8", "An ITEM goes (those behind it come up): how many there are");
        KnapsackCore first = example();
        due("drop(0)", () -> first.drop(0), 3);
        due("item(0, 0), item(1, 0), item(2, 0)",
                () -> first.item(0, 0) * 100 + first.item(1, 0) * 10 + first.item(2, 0), 463);
        KnapsackCore last = example();
        due("drop(3)", () -> last.drop(3), 3);
        due("item(2, 0)", () -> last.item(2, 0), 6);
        KnapsackCore one = sack(5, 1, 1);
        due("drop of the only one", () -> one.drop(0), 0);
        due("none is left", () -> one.drop(0), -1);
        due("drop of the 60th", () -> full().drop(59), 59);
        due("drop of the first of 60", () -> full().drop(0), 59);

        sentence("Promise 8", "NONE: there is none such");
        for (int no : new int[] {-1, 4, 60, LOW, HIGH}) {
            refused("drop(" + no + ")", CallEdgeTest::busy, y -> y.drop(no), -1);
        }
        refused("drop(60), full", CallEdgeTest::full, y -> y.drop(60), -1);
        refused("drop(0), no ITEMS", KnapsackCore::new, y -> y.drop(0), -1);
    }

    private static void roomAndMost() {
        sentence("Terms 1; Promise 5", "ROOM, 0 to 2000000000; ROOM is another one: true");
        KnapsackCore x = busy();
        dueTrue("room(0)", x.room(0));
        due("count(1)", () -> x.count(1), 0);
        dueTrue("room(2000000000)", x.room(2000000000));
        due("count(1)", () -> x.count(1), 2000000000);

        sentence("Promise 5", "false: it is that already");
        refused("room(10)", CallEdgeTest::busy, y -> y.room(10) ? 1 : 0, 0);
        refused("room(100) at first", KnapsackCore::new, y -> y.room(100) ? 1 : 0, 0);
        refused("room(10), proved", CallEdgeTest::proved, y -> y.room(10) ? 1 : 0, 0);

        sentence("Promise 5", "false: a number that can not be");
        for (int no : NO_ROOM) {
            refused("room(" + no + ")", CallEdgeTest::busy, y -> y.room(no) ? 1 : 0, 0);
        }

        sentence("Terms 1; Promise 6", "MOST, 2 to 1000: MOST likewise");
        dueTrue("most(2)", x.most(2));
        due("count(2)", () -> x.count(2), 2);
        dueTrue("most(1000)", x.most(1000));
        due("count(2)", () -> x.count(2), 1000);

        sentence("Promise 6", "likewise [false: it is that already]");
        refused("most(300)", CallEdgeTest::busy, y -> y.most(300) ? 1 : 0, 0);
        refused("most(400) at first", KnapsackCore::new, y -> y.most(400) ? 1 : 0, 0);

        sentence("Promise 6", "likewise [false: a number that can not be]");
        for (int no : NO_MOST) {
            refused("most(" + no + ")", CallEdgeTest::busy, y -> y.most(no) ? 1 : 0, 0);
        }
    }

    private static void steps() {
        sentence("Promise 9", "A STEP: how many SETS there are");
        KnapsackCore x = example();
        due("two", x::step, 2);
        due("one", x::step, 1);
        due("none", x::step, 0);

        sentence("Promise 9", "NONE: it is PROVED");
        refused("step()", CallEdgeTest::proved, KnapsackCore::step, -1);

        sentence("Promise 9", "NONE: there are no ITEMS");
        refused("step()", KnapsackCore::new, KnapsackCore::step, -1);

        sentence("Promise 9", "-2: it is STUCK");
        refused("step()", CallEdgeTest::stuck, KnapsackCore::step, -2);

        sentence("Promise 10", "STEPS, till it is PROVED or STUCK: how many were made");
        KnapsackCore behind = example();
        behind.step();
        due("behind a STEP, till PROVED", behind::solve, 2);
        due("PROVED", () -> behind.count(11), 1);
        KnapsackCore till = example();
        till.most(2);
        due("till STUCK", till::solve, 1);
        due("STUCK is not PROVED", () -> till.count(11), 0);
        due("one ITEM that fits", () -> sack(1, 1, 1).solve(), 1);
        due("one ITEM that does not", () -> sack(0, 1, 1).solve(), 1);

        sentence("Promise 10", "NONE: none was");
        refused("solve(), PROVED", CallEdgeTest::proved, KnapsackCore::solve, -1);
        refused("solve(), STUCK", CallEdgeTest::stuck, KnapsackCore::solve, -1);
        refused("solve(), no ITEMS", KnapsackCore::new, KnapsackCore::solve, -1);
    }

    /** The act is done and undone on such an object: all is as it was. */
    private static void undone(String act, Supplier<KnapsackCore> made, Call done) {
        KnapsackCore x = made.get();
        long acts = x.count(15);
        done.on(x);
        due(act + " can be UNDONE", () -> x.count(15), acts + 1);
        due("undo() of " + act, x::undo, acts);
        same(act + ", all is as it was", seenToTheGround(x), seenToTheGround(made.get()));
    }

    private static void undo() {
        sentence("Terms 3", "ACTS that can be UNDONE: room(), most(), add(), drop(), step(), solve()");
        undone("room(11)", CallEdgeTest::busy, y -> y.room(11) ? 1 : 0);
        undone("most(3)", CallEdgeTest::busy, y -> y.most(3) ? 1 : 0);
        undone("add(1, 1)", CallEdgeTest::busy, y -> y.add(1, 1));
        undone("drop(0)", CallEdgeTest::busy, y -> y.drop(0));
        undone("drop(3)", CallEdgeTest::busy, y -> y.drop(3));
        undone("step()", CallEdgeTest::busy, KnapsackCore::step);
        undone("solve()", CallEdgeTest::busy, KnapsackCore::solve);
        undone("solve() till STUCK", () -> {
            KnapsackCore y = example();
            y.most(2);
            return y;
        }, KnapsackCore::solve);
        undone("add() of the first", KnapsackCore::new, y -> y.add(1, 1));
        undone("drop() of the only one", () -> sack(5, 1, 1), y -> y.drop(0));

        sentence("Terms 3", "the latest 8");
        KnapsackCore eight = new KnapsackCore();
        for (int k = 1; k <= 9; k++) {
            eight.add(k, k);
        }
        due("nine ACTS, count(15)", () -> eight.count(15), 8);
        for (int k = 7; k >= 0; k--) {
            int left = k;
            due("undo()", eight::undo, left);
            due("ITEMS", () -> eight.count(0), left + 1);
        }
        due("the first can not be UNDONE", eight::undo, -1);
        due("it stays", () -> eight.count(0), 1);

        sentence("Terms 3", "[the latest]: what comes behind undo() is the latest then");
        KnapsackCore x = sack(5, 1, 1, 2, 2, 3, 3);
        x.undo();
        x.add(9, 9);
        due("undo()", x::undo, 3);
        due("ITEMS", () -> x.count(0), 2);
        due("undo()", x::undo, 2);
        due("ITEMS", () -> x.count(0), 1);

        sentence("Promise 11", "how many more can be; NONE: none can");
        refused("undo() at first", KnapsackCore::new, KnapsackCore::undo, -1);
        KnapsackCore one = new KnapsackCore();
        one.add(1, 1);
        due("undo() of the only one", one::undo, 0);
        due("undo() once more", one::undo, -1);

        sentence("Terms 3", "SHELVES are not UNDONE [nor is THE TEXT, the FAULT, an image]");
        KnapsackCore y = new KnapsackCore();
        y.add(3, 4);
        y.shelve(0, 0, false, 0);
        y.shelve(1, 3, true, 0);
        typed(y, "!");
        y.read();
        typed(y, "room");
        y.image(1);
        y.undo();
        due("SHELF 0", () -> y.shelved(0, 0, true), 4);
        due("SHELF 1", () -> y.shelved(1, 3, false), 3);
        due("THE TEXT", () -> y.count(16), 4);
        due("the FAULT", () -> y.fault(false), 1);
        dueTrue("the image", y.again(1));
        due("ITEMS of the image", () -> y.count(0), 1);

        sentence("Terms 3", "again() leaves none");
        due("undo()", y::undo, -1);
        due("count(15)", () -> y.count(15), 0);
        y.add(5, 5);
        due("undo() of what comes behind it", y::undo, 0);
        due("undo() goes no further", y::undo, -1);
    }

    private static void numbers() {
        sentence("Promise 12", "11: 1 if it is PROVED (there are ITEMS, too), else 0");
        due("no ITEMS", () -> new KnapsackCore().count(11), 0);
        due("PROVED", () -> proved().count(11), 1);
        due("STUCK", () -> stuck().count(11), 0);
        KnapsackCore gone = proved();
        for (int k = 0; k < 4; k++) {
            gone.drop(0);
        }
        due("ITEMS have gone", () -> gone.count(11), 0);

        sentence("Promise 12", "15: ACTS that can be UNDONE");
        due("at most 8", () -> full().count(15), 8);

        sentence("Promise 12", "18: all WEIGHTS together, 19: all PROFITS together");
        due("the greatest int", () -> heavy().count(18), HIGH);
        due("the greatest int", () -> dear().count(19), HIGH);
        due("none", () -> new KnapsackCore().count(18) + new KnapsackCore().count(19), 0);

        sentence("Promise 12", "NONE for another what");
        for (int no : new int[] {-1, 20, 256, LOW, HIGH}) {
            due("count(" + no + ")", () -> busy().count(no), -1);
        }

        sentence("Promise 13", "3: 1 if BEST has it, else 0, 4: 1 if it is FIXED, else 0");
        long[][] flags = {{1, 0}, {1, 1}, {0, 1}, {0, 0}};
        for (int k = 0; k < flags.length; k++) {
            int item = k;
            due("item(" + item + ", 3)", () -> busy().item(item, 3), flags[item][0]);
            due("item(" + item + ", 4)", () -> busy().item(item, 4), flags[item][1]);
        }

        sentence("Promise 13", "NoSuchElementException: there is none such");
        for (int no : new int[] {-1, 4, 59, 60, LOW, HIGH}) {
            refused("item(" + no + ", 0)", CallEdgeTest::busy, y -> y.item(no, 0), THROWS);
        }
        due("item(0, 0), no ITEMS", () -> new KnapsackCore().item(0, 0), THROWS);
        due("item(60, 0), full", () -> full().item(60, 0), THROWS);
        due("item(59, 0), full", () -> full().item(59, 0), 60);

        sentence("Promise 13", "NoSuchElementException: another what");
        for (int no : new int[] {-1, 5, LOW, HIGH}) {
            refused("item(0, " + no + ")", CallEdgeTest::busy, y -> y.item(0, no), THROWS);
            due("item(-1, " + no + ")", () -> busy().item(-1, no), THROWS);
        }

        sentence("Promise 14", "0: there is none such, BREAK is none's");
        for (int no : new int[] {-1, 4, 60, LOW, HIGH}) {
            due("reduced(" + no + ")", () -> busy().reduced(no), 0);
        }
        due("all fit", () -> sack(1, 1, 1).reduced(0), 0);
        due("no ITEMS", () -> new KnapsackCore().reduced(0), 0);

        sentence("Promise 15", "NONE: there is none such");
        for (int no : new int[] {-1, 4, 60, LOW, HIGH}) {
            due("order(" + no + ")", () -> busy().order(no), -1);
        }
        due("no ITEMS", () -> new KnapsackCore().order(0), -1);

        sentence("Promise 16", "NoSuchElementException: there is none such");
        for (int no : new int[] {-1, 2, 16, 1000, LOW, HIGH}) {
            refused("set(" + no + ", 0)", CallEdgeTest::busy, y -> y.set(no, 0), THROWS);
        }
        due("no SETS", () -> proved().set(0, 0), THROWS);
        due("the last", () -> busy().set(1, 0), 12);

        sentence("Promise 16", "NoSuchElementException: another what");
        for (int no : new int[] {-1, 5, LOW, HIGH}) {
            refused("set(0, " + no + ")", CallEdgeTest::busy, y -> y.set(0, no), THROWS);
        }
    }

    private static void parts() {
        sentence("Promise 18", "PROFIT as a float by WEIGHT as a float");
        int[][] pairs = {{1, 1}, {1, 2}, {1, 4}, {2, 1}, {4, 1}, {1, 999999999},
            {999999999, 1}, {999999999, 999999999}, {16777217, 16777219}, {3, 1},
            {16777217, 1}, {1, 33554433}, {7, 16777217}, {999999967, 999999937}};
        for (int[] pair : pairs) {
            due("share of " + pair[0] + " " + pair[1], () -> sack(1, pair[0], pair[1]).share(0),
                    Float.floatToRawIntBits((float) pair[1] / (float) pair[0]));
        }

        sentence("Promise 18", "0: there is none such");
        for (int no : new int[] {-1, 4, 60, LOW, HIGH}) {
            due("share(" + no + ")", () -> busy().share(no), 0);
        }
        due("no ITEMS", () -> new KnapsackCore().share(0), 0);

        sentence("Promise 19", "and, if BREAK is an ITEM's, the ROOM left as a double times its PROFIT, by its WEIGHT");
        due("no ITEMS", () -> new KnapsackCore().linear(), 0);
        due("no ROOM", () -> sack(0, 1, 1).linear(), 0);
        due("all fit", () -> sack(1, 1, 1).linear(), Double.doubleToRawLongBits(1.0));
        due("2", () -> sack(1, 1, 2).linear(), Double.doubleToRawLongBits(2.0));
        due("4", () -> sack(1, 1, 4).linear(), Double.doubleToRawLongBits(4.0));
        due("a half", () -> sack(1, 2, 1).linear(), Double.doubleToRawLongBits(0.5));
        due("a quarter", () -> sack(1, 4, 1).linear(), Double.doubleToRawLongBits(0.25));
        due("nothing is left", () -> sack(1, 1, 3, 1, 2).linear(), Double.doubleToRawLongBits(3.0));
        due("first times, then by", () -> sack(3, 10, 7).linear(), Double.doubleToRawLongBits(3.0 * 7.0 / 10.0));
        due("small", () -> sack(1, 999999999, 1).linear(), Double.doubleToRawLongBits(1.0 / 999999999.0));
        due("great, rounded", () -> sack(1999999997, 999999999, 999999999, 999999999, 999999997).linear(),
                Double.doubleToRawLongBits(999999999.0 + 999999998.0 * 999999997.0 / 999999999.0));

        sentence("Promise 20", "The whole part .. made an int");
        KnapsackCore x = example();
        long[][] want = {{1, 1, 24}, {1, 5, 4}, {-1, 5, -4}, {1, -5, -4}, {-1, -5, 4}, {0, 7, 0}, {0, -7, 0},
            {1, 25, 0}, {-1, 25, 0}, {HIGH, HIGH, 24}, {LOW, LOW, 24}, {HIGH, 1, HIGH}, {LOW, 1, LOW},
            {LOW, -1, HIGH}, {HIGH, -1, LOW}, {HIGH, 24, HIGH}, {LOW, 24, LOW}, {LOW, -24, HIGH},
            {HIGH, -24, -HIGH}, {1, HIGH, 0}, {1, LOW, 0}};
        for (long[] row : want) {
            due("part(" + row[0] + ", " + row[1] + ")", () -> x.part((int) row[0], (int) row[1]), row[2]);
        }
        due("the double, not LINEAR BOUND", () -> sack(1, 2, 3).part(2, 1), 3);

        sentence("Promise 20", "0: lower is 0");
        for (int upper : new int[] {0, 1, -1, LOW, HIGH}) {
            due("part(" + upper + ", 0)", () -> x.part(upper, 0), 0);
            due("part(" + upper + ", 0), no ITEMS", () -> new KnapsackCore().part(upper, 0), 0);
        }

        sentence("Promise 21", "NONE for another what");
        for (int no : new int[] {-1, 3, LOW, HIGH}) {
            due("greedy(" + no + ")", () -> busy().greedy(no), -1);
        }

        sentence("Promise 22", "how much more (0: there is none), 1, 2 (NONE: there is none)");
        due("swap(0)", () -> busy().swap(0), 0);
        due("swap(1)", () -> busy().swap(1), -1);
        due("swap(2)", () -> busy().swap(2), -1);
        due("ITEM 0 goes", () -> sack(8, 5, 10, 8, 13).swap(1), 0);
        due("ITEM 0 comes", () -> sack(8, 8, 13, 5, 10).swap(2), 0);

        sentence("Promise 22", "NONE for another what");
        for (int no : new int[] {-1, 3, LOW, HIGH}) {
            due("swap(" + no + ")", () -> busy().swap(no), -1);
            due("swap(" + no + "), there is one", () -> sack(8, 5, 10, 8, 13).swap(no), -1);
        }
    }

    private static void front() {
        sentence("Promise 23", "how many SETS (k NONE, what 0)");
        due("front(-1, 0)", () -> busy().front(-1, 0), 8);
        due("no ITEMS", () -> new KnapsackCore().front(-1, 0), 1);

        sentence("Promise 23", "NONE: there is none such");
        for (int no : new int[] {-2, 8, 16, 1000, LOW, HIGH}) {
            for (int what = 0; what < 4; what++) {
                int w = what;
                due("front(" + no + ", " + w + ")", () -> busy().front(no, w), -1);
            }
        }
        due("front(-1, 1)", () -> busy().front(-1, 1), -1);
        due("front(-1, 3)", () -> busy().front(-1, 3), -1);
        due("front(7, 0), the last", () -> busy().front(7, 0), 18);

        sentence("Promise 23", "NONE: another what");
        for (int no : new int[] {-1, 4, LOW, HIGH}) {
            due("front(0, " + no + ")", () -> busy().front(0, no), -1);
            due("front(-1, " + no + ")", () -> busy().front(-1, no), -1);
        }

        sentence("Promise 23", "-2: it is STUCK (this first)");
        for (int k : new int[] {-1, 0, 8, LOW, HIGH}) {
            for (int what : new int[] {0, 1, 4, -1, LOW, HIGH}) {
                due("front(" + k + ", " + what + ")", () -> stuck().front(k, what), -2);
            }
        }

        sentence("Terms 2, The FRONT", "[it is that of the ITEMS and MOST of now]");
        KnapsackCore x = example();
        due("four ITEMS", () -> x.front(-1, 0), 8);
        x.most(7);
        due("another MOST", () -> x.front(-1, 0), -2);
        x.undo();
        due("undo()", () -> x.front(-1, 0), 8);
        x.drop(0);
        due("drop()", () -> x.front(-1, 0), 6);
        x.add(1, 1);
        due("add()", () -> x.front(-1, 0), 11);
        x.image(0);
        x.read();
        due("read()", () -> x.front(-1, 0), 1);
        x.again(0);
        due("again()", () -> x.front(-1, 0), 11);
    }

    private static void optima() {
        sentence("Terms 3", "OPTIMUM: .. when all STEPS are made from the begin, by MOST; none, if it is STUCK");
        KnapsackCore x = busy();
        due("from the begin, whatever STEPS were made", () -> x.other(10), 22);
        x.solve();
        due("PROVED already", () -> x.other(10), 22);
        due("STUCK", () -> stuck().other(10), -1);
        KnapsackCore later = stuck();
        due("STUCK only with this ROOM", () -> later.other(9), 22);

        sentence("Promise 24", "NONE: there is none");
        long[] rooms = {0, 0, 0, 6, 12, 12, -1, -1, -1, 22, -1, -1, 28, 28, -1, 31, 31, 31, 37, 37};
        for (int room = 0; room < rooms.length; room++) {
            int r = room;
            due("other(" + r + ")", () -> stuck().other(r), rooms[r]);
        }

        sentence("Promise 24", "NONE: a number that can not be");
        for (int no : NO_ROOM) {
            due("other(" + no + ")", () -> busy().other(no), -1);
            due("other(" + no + "), no ITEMS", () -> new KnapsackCore().other(no), -1);
        }
        due("other(0)", () -> busy().other(0), 0);
        due("other(2000000000)", () -> busy().other(2000000000), 37);

        sentence("Promise 25", "NONE: there is none (of either)");
        for (int no : new int[] {-1, 4, 60, LOW, HIGH}) {
            due("without(" + no + ")", () -> busy().without(no), -1);
        }
        due("no ITEMS", () -> new KnapsackCore().without(0), -1);
        due("the only one", () -> sack(5, 1, 1).without(0), 0);
        due("the last of 60", () -> full().without(59), full().other(100));
        KnapsackCore five = stuck();
        five.add(1, 1);
        due("no OPTIMUM: STUCK", () -> five.without(4), -1);
        due("an OPTIMUM", () -> stuck().without(2), 22);

        sentence("Promise 26", "NONE: there is none (of either)");
        for (int no : new int[] {-1, 4, 60, LOW, HIGH}) {
            due("with(" + no + ")", () -> busy().with(no), -1);
        }
        due("no ITEMS", () -> new KnapsackCore().with(0), -1);
        KnapsackCore nine = stuck();
        nine.room(11);
        nine.add(1, 1);
        due("no OPTIMUM of the others: STUCK", () -> nine.with(4), -1);

        sentence("Promise 26", "NONE: it does not fit");
        due("just fits, no ROOM is left", () -> sack(6, 6, 9, 1, 1).with(0), 9);
        due("one over", () -> sack(5, 6, 9, 1, 1).with(0), -1);
        due("no ROOM", () -> sack(0, 1, 1).with(0), -1);
        due("one is left", () -> sack(7, 6, 9, 1, 1).with(0), 10);
        due("it is in but once", () -> sack(12, 6, 9, 1, 1).with(0), 10);
        due("great numbers", () -> dear().with(2), 999999999 + 147483649);
    }

    private static void least() {
        sentence("Promise 27", "NONE: a PROFIT below 0");
        due("least(-1)", () -> busy().least(-1), -1);
        due("least(LOW)", () -> busy().least(LOW), -1);
        due("least(-1), no ITEMS", () -> new KnapsackCore().least(-1), -1);
        due("least(0)", () -> busy().least(0), 0);

        sentence("Promise 27", "so much PROFIT or more");
        long[][] want = {{1, 3}, {6, 3}, {7, 4}, {12, 4}, {13, 7}, {18, 7}, {19, 9}, {22, 9}, {23, 12}, {28, 12},
            {29, 15}, {31, 15}, {32, 18}, {37, 18}};
        for (long[] pair : want) {
            due("least(" + pair[0] + ")", () -> busy().least((int) pair[0]), pair[1]);
        }

        sentence("Promise 27", "NONE: the greatest has not so much");
        due("least(38)", () -> busy().least(38), -1);
        due("least(HIGH)", () -> busy().least(HIGH), -1);
        due("least(1), no ITEMS", () -> new KnapsackCore().least(1), -1);
        due("least(HIGH), all PROFITS", () -> dear().least(HIGH), 3);
        due("least(2000000000)", () -> dear().least(2000000000), 3);
        due("least(1999999998)", () -> dear().least(1999999998), 2);

        sentence("Promise 27", "from 0 to all WEIGHTS together (2000000000, if they are more)");
        due("all WEIGHTS together", () -> sack(0, 5, 5, 7, 7).least(12), 12);
        due("2000000000 is less than all WEIGHTS", () -> heavy().least(3), -1);
        due("two of the three", () -> heavy().least(2), 1147483648);
        due("just 2000000000", () -> sack(0, 999999999, 1, 999999999, 1, 2, 1).least(3), 2000000000);
        due("one more", () -> sack(0, 999999999, 1, 999999999, 1, 3, 1).least(3), -1);

        sentence("Promise 27", "the greatest is asked first; NONE: any that was asked has no OPTIMUM");
        // With a room of 2000000000 four sets come behind the second step: 8000, 12800, 14300, 19100 of profit.
        KnapsackCore x = sack(0, 800000000, 8000, 700000000, 6300, 600000000, 4800, 40000000, 280);
        x.most(3);
        due("the greatest is STUCK", () -> x.least(0), -1);
        x.most(400);
        due("the greatest is not", () -> x.other(2000000000), 14580);
        due("least(0)", () -> x.least(0), 0);

        sentence("Promise 27", "then, .., the middle of both, downwards; NONE: any that was asked has no OPTIMUM");
        // Of the rooms 0 to 18 those of 6, 7, 8, 10, 11 and 14 are stuck.
        due("18, 9, 4, 2, 3 are asked", () -> stuck().least(12), 4);
        due("18, 9, 4, 2, 3 are asked", () -> stuck().least(6), 3);
        due("18, 9, 4, 2, 1, 0 are asked", () -> stuck().least(0), 0);
        due("18, 9, 4, 7 are asked", () -> stuck().least(22), -1);
        due("18, 9, 14 are asked", () -> stuck().least(23), -1);
        due("18, 9, 14 are asked, though 18 would do", () -> stuck().least(37), -1);
    }

    private static void ahead() {
        sentence("Promise 28", "How many STEPS solve() would make");
        due("no ITEMS", () -> new KnapsackCore().ahead(false), 0);
        due("PROVED", () -> proved().ahead(false), 0);
        due("STUCK", () -> stuck().ahead(false), 0);
        due("behind a STEP", () -> busy().ahead(false), 2);
        due("all 60", () -> {
            KnapsackCore x = sack(1, 1, 1);
            for (int k = 0; k < 59; k++) {
                x.add(2, 100);
            }
            return x.ahead(false);
        }, 60);

        sentence("Promise 28", "the most SETS that there would be behind a STEP (those there are now, too)");
        due("no ITEMS", () -> new KnapsackCore().ahead(true), 1);
        due("PROVED", () -> proved().ahead(true), 0);
        due("STUCK", () -> stuck().ahead(true), 2);
        due("one now, none behind the STEP", () -> sack(1, 1, 1).ahead(true), 1);
        KnapsackCore x = sack(8, 4, 40, 3, 27, 3, 26, 10, 80);
        due("at first", () -> x.ahead(true), 3);
        x.step();
        due("two now, three ahead", () -> x.ahead(true), 3);
        x.step();
        due("three now", () -> x.ahead(true), 3);
        x.step();
        due("one now", () -> x.ahead(true), 1);
    }

    private static void shelves() {
        sentence("Terms 3; Promise 29", "SHELF 0 has 4 places for ITEMS, SHELF 1 4 for SETS");
        KnapsackCore x = busy();
        for (int place = 0; place < 4; place++) {
            int p = place;
            due("shelve(0, " + p + ", false, " + p + ")", () -> x.shelve(0, p, false, p), 0);
            due("shelve(1, " + p + ", true, " + p % 2 + ")", () -> x.shelve(1, p, true, p % 2), 0);
        }
        for (int place = 0; place < 4; place++) {
            int p = place;
            due("shelved(0, " + p + ", false)", () -> x.shelved(0, p, false), x.item(p, 0));
            due("shelved(0, " + p + ", true)", () -> x.shelved(0, p, true), x.item(p, 1));
            due("shelved(1, " + p + ", false)", () -> x.shelved(1, p, false), x.set(p % 2, 0));
            due("shelved(1, " + p + ", true)", () -> x.shelved(1, p, true), x.set(p % 2, 1));
        }

        sentence("Promise 29", "NONE: there is no such SHELF");
        for (int no : new int[] {-1, 2, LOW, HIGH}) {
            refused("shelve(" + no + ", 0, false, 0)", CallEdgeTest::busy, y -> y.shelve(no, 0, false, 0), -1);
            refused("shelve(" + no + ", 0, true, 0)", CallEdgeTest::busy, y -> y.shelve(no, 0, true, 0), -1);
        }

        sentence("Promise 29", "NONE: there is no such place");
        for (int no : new int[] {-1, 4, 7, LOW, HIGH}) {
            refused("shelve(0, " + no + ", false, 0)", CallEdgeTest::busy, y -> y.shelve(0, no, false, 0), -1);
            refused("shelve(1, " + no + ", true, 0)", CallEdgeTest::busy, y -> y.shelve(1, no, true, 0), -1);
        }

        sentence("Promise 29", "NONE: there is no such ITEM");
        for (int no : new int[] {-1, 4, 60, LOW, HIGH}) {
            refused("shelve(0, 0, false, " + no + ")", CallEdgeTest::busy, y -> y.shelve(0, 0, false, no), -1);
            refused("shelve(1, 0, false, " + no + ")", CallEdgeTest::busy, y -> y.shelve(1, 0, false, no), -1);
        }

        sentence("Promise 29", "NONE: there is no such SET");
        for (int no : new int[] {-1, 2, 3, LOW, HIGH}) {
            refused("shelve(1, 0, true, " + no + ")", CallEdgeTest::busy, y -> y.shelve(1, 0, true, no), -1);
            refused("shelve(0, 0, true, " + no + ")", CallEdgeTest::busy, y -> y.shelve(0, 0, true, no), -1);
        }
        refused("shelve(1, 0, true, 0), no SETS", CallEdgeTest::proved, y -> y.shelve(1, 0, true, 0), -1);
        due("the SET of no ITEMS", () -> new KnapsackCore().shelve(1, 0, true, 0), 0);

        sentence("Promise 29", "-2: the SHELF is not for that kind");
        for (int place = 0; place < 4; place++) {
            int p = place;
            refused("shelve(0, " + p + ", true, 0)", CallEdgeTest::busy, y -> y.shelve(0, p, true, 0), -2);
            refused("shelve(1, " + p + ", false, 0)", CallEdgeTest::busy, y -> y.shelve(1, p, false, 0), -2);
        }

        sentence("Terms 3", "things put there stay as they were then");
        x.drop(0);
        x.solve();
        x.room(0);
        due("ITEM 0, which is gone", () -> x.shelved(0, 0, true), 10);
        due("SET 1, which is gone", () -> x.shelved(1, 1, true), 28);
        due("another one in its place", () -> x.shelve(0, 0, false, 0), 0);
        due("shelved(0, 0, true)", () -> x.shelved(0, 0, true), 12);
        due("its neighbour stays", () -> x.shelved(0, 1, true), 12);

        sentence("Promise 30", "NONE: nothing is");
        due("shelved(0, 0, false)", () -> busy().shelved(0, 0, false), -1);
        due("shelved(1, 3, true)", () -> busy().shelved(1, 3, true), -1);
        KnapsackCore empty = sack(0, 1, 1);
        empty.shelve(1, 0, true, 0);
        due("the empty SET is something", () -> empty.shelved(1, 0, true) + empty.shelved(1, 0, false), 0);

        sentence("Promise 30", "NONE: there is no such SHELF, place");
        for (int no : new int[] {-1, 2, LOW, HIGH}) {
            due("shelved(" + no + ", 1, true)", () -> busy().shelved(no, 1, true), -1);
        }
        KnapsackCore laden = busy();
        for (int place = 0; place < 4; place++) {
            laden.shelve(0, place, false, 0);
            laden.shelve(1, place, true, 0);
        }
        for (int no : new int[] {-1, 4, LOW, HIGH}) {
            due("shelved(0, " + no + ", false)", () -> laden.shelved(0, no, false), -1);
            due("shelved(1, " + no + ", false)", () -> laden.shelved(1, no, false), -1);
        }
    }

    private static void images() {
        sentence("Promise 31", "kept as k, 0 to 2: true; false for another k");
        for (int k = 0; k < 3; k++) {
            dueTrue("image(" + k + ")", busy().image(k));
        }
        for (int no : new int[] {-1, 3, LOW, HIGH}) {
            refused("image(" + no + ")", CallEdgeTest::busy, y -> y.image(no) ? 1 : 0, 0);
        }

        sentence("Promise 31", "All that there is (THE TEXT, the FAULT, SHELVES, too, but for what can be UNDONE)");
        KnapsackCore x = busy();
        List<String> before = seen(x);
        x.image(1);
        same("image() itself changes nothing", seen(x), before);
        due("what can be UNDONE stays", () -> x.count(15), 7);
        x.read();
        typed(x, "y".repeat(600));
        x.shelve(0, 1, false, 0);
        x.shelve(1, 2, true, 0);
        x.shelve(1, 3, true, 0);
        dueTrue("again(1)", x.again(1));
        same("all but ACTS", withoutActs(seen(x)), withoutActs(before));
        due("no ACTS", () -> x.count(15), 0);
        due("bytes of THE TEXT", x::read, 1);
        due("the ITEM that the kept text told", () -> x.item(0, 0) * 10 + x.item(0, 1), 34);
        KnapsackCore long600 = typed(new KnapsackCore(), "item1 1;".repeat(75));
        long600.image(0);
        long600.read();
        long600.again(0);
        due("a full text", () -> long600.count(16), 600);
        long600.read();
        due("its FAULT", () -> long600.fault(true), 480);

        sentence("Promise 31", "is kept as k [another one in its place, the others stay]");
        KnapsackCore three = new KnapsackCore();
        for (int k = 0; k < 3; k++) {
            three.add(1, 1);
            three.image(k);
        }
        three.add(1, 1);
        three.image(1);
        long[] items = {1, 4, 3};
        for (int k = 2; k >= 0; k--) {
            int image = k;
            dueTrue("again(" + image + ")", three.again(image));
            due("ITEMS", () -> three.count(0), items[image]);
        }
        three.drop(0);
        three.shelve(1, 0, true, 0);
        dueTrue("again(0), what was done to it is no matter", three.again(0));
        due("ITEMS", () -> three.count(0), 1);
        due("SHELVES", () -> three.shelved(1, 0, true), -1);

        sentence("Promise 32", "false if there is none such");
        for (int no : new int[] {-1, 3, LOW, HIGH}) {
            refused("again(" + no + ")", CallEdgeTest::busy, y -> y.again(no) ? 1 : 0, 0);
        }
        refused("again(1), none is kept", CallEdgeTest::busy, y -> y.again(1) ? 1 : 0, 0);
        for (int k = 0; k < 3; k++) {
            int image = k;
            refused("again(" + image + ") at first", KnapsackCore::new, y -> y.again(image) ? 1 : 0, 0);
        }

        sentence("Promise 32", "All is as it was kept as k: true");
        KnapsackCore fresh = new KnapsackCore();
        fresh.image(2);
        fresh.add(1, 1);
        fresh.shelve(0, 0, false, 0);
        typed(fresh, "!");
        fresh.read();
        fresh.type(-1L);
        dueTrue("again(2)", fresh.again(2));
        same("as a new object", seen(fresh), seen(new KnapsackCore()));
        KnapsackCore stuck = stuck();
        stuck.image(0);
        stuck.most(1000);
        stuck.again(0);
        due("STUCK again", stuck::step, -2);
        KnapsackCore proved = proved();
        proved.image(0);
        proved.undo();
        proved.again(0);
        due("PROVED again", proved::step, -1);
    }

    private static List<String> withoutActs(List<String> rows) {
        List<String> left = new ArrayList<>(rows);
        left.removeIf(row -> row.startsWith("count(15)"));
        return left;
    }

    private static void questions() {
        sentence("Terms 3", "Questions change nothing");
        List<Supplier<KnapsackCore>> states = List.of(CallEdgeTest::busy, CallEdgeTest::stuck, CallEdgeTest::proved,
                KnapsackCore::new, CallEdgeTest::heavy);
        for (Supplier<KnapsackCore> state : states) {
            changesNothing("all that can be asked", state, y -> seen(y));
            changesNothing("least(3)", state, y -> y.least(3));
            changesNothing("front(0, 3)", state, y -> y.front(0, 3));
            changesNothing("ahead(true)", state, y -> y.ahead(true));
            changesNothing("ahead(false)", state, y -> y.ahead(false));
            changesNothing("other(1)", state, y -> y.other(1));
            changesNothing("without(0)", state, y -> y.without(0));
            changesNothing("with(0)", state, y -> y.with(0));
        }

        sentence("Terms 3", "Refused calls change nothing: type() beyond 600 bytes");
        refused("type of eight", () -> typed(busy(), " ".repeat(584)), y -> y.type(-1L), -1);
    }

    public static void main(String[] args) {
        newObject();
        items();
        roomAndMost();
        steps();
        undo();
        numbers();
        parts();
        front();
        optima();
        least();
        ahead();
        shelves();
        images();
        questions();
        end("the calls hold at all their edges");
    }
}
