import java.util.Random;

/** Each promise by itself: ordinary calls, edges, wrong calls; answers worked out by hand. */
public final class PromiseTest extends Checks {
    private static void faultOf(String text, int fault, int place) {
        KnapsackCore x = typed(example(), text);
        String call = "read of '" + text + "', ";
        due(3, call + "read()", x::read, -1);
        due(4, call + "fault(false)", () -> x.fault(false), fault);
        due(4, call + "fault(true)", () -> x.fault(true), place);
        due(3, call + "items stay", () -> x.count(0), 4);
        due(3, call + "acts stay", () -> x.count(15), 5);
        due(3, call + "the text is empty", () -> x.count(16), 0);
    }

    private static void newObject() {
        KnapsackCore x = new KnapsackCore();
        long[] want = {0, 100, 400, 0, 0, 0, 0, 0, -1, 0, 1, 0, 0, 0, 0, 0, 0, 1, 0, 0, -1};
        for (int what = 0; what < want.length; what++) {
            int w = what;
            due(1, "count(" + w + ")", () -> x.count(w), want[w]);
        }
        due(1, "fault(false)", () -> x.fault(false), 0);
        due(1, "fault(true)", () -> x.fault(true), -1);
        due(1, "best()", x::best, 0);
        due(1, "set(0, 2)", () -> x.set(0, 2), 0);
        due(1, "linear()", x::linear, 0);
        due(1, "step()", x::step, -1);
        due(1, "solve()", x::solve, -1);
        due(1, "undo()", x::undo, -1);
        due(1, "front(-1, 0)", () -> x.front(-1, 0), 1);
        due(1, "front(0, 3)", () -> x.front(0, 3), 1);
        due(1, "other(7)", () -> x.other(7), 0);
        due(1, "least(0)", () -> x.least(0), 0);
        due(1, "least(1)", () -> x.least(1), -1);
        due(1, "ahead(false)", () -> x.ahead(false), 0);
        due(1, "ahead(true)", () -> x.ahead(true), 1);
        dueFalse(1, "again(0)", x.again(0));
    }

    private static void type() {
        KnapsackCore x = new KnapsackCore();
        due(2, "type(0)", () -> x.type(0), 0);
        due(2, "type of 3", () -> x.type(eight("abc")), 3);
        due(2, "type, a 0 in between", () -> x.type(0x6100626364656667L), 4);
        due(2, "type, a 0 first", () -> x.type(0x0061626364656667L), 4);
        due(2, "type, high bytes", () -> x.type(-1L), 12);
        for (int k = 2; k <= 74; k++) {
            x.type(-1L);
        }
        due(2, "count(16)", () -> x.count(16), 596);
        due(2, "type, too many", () -> x.type(eight("12345")), -1);
        due(2, "count(16), nothing came", () -> x.count(16), 596);
        due(2, "type, just enough", () -> x.type(eight("1234")), 600);
        due(2, "type, one more", () -> x.type(eight("1")), -1);
        due(2, "type(0), none more", () -> x.type(0), 600);
    }

    private static void read() {
        KnapsackCore x = typed(example(), "room 50;most 7;item 3 4;\nroom0000000060 ; item5 6;");
        x.solve();
        due(3, "read()", x::read, 2);
        due(3, "the later room strikes", () -> x.count(1), 60);
        due(3, "most", () -> x.count(2), 7);
        due(3, "item(0, 0)", () -> x.item(0, 0), 3);
        due(3, "item(1, 1)", () -> x.item(1, 1), 6);
        due(3, "no acts are left", () -> x.count(15), 0);
        due(3, "steps", () -> x.count(9), 0);
        due(4, "fault(false)", () -> x.fault(false), 0);
        due(4, "fault(true)", () -> x.fault(true), -1);
        due(3, "read() of the empty text", x::read, 0);
        due(3, "room as at first", () -> x.count(1), 100);
        due(3, "most as at first", () -> x.count(2), 400);
        x.add(2, 9);
        x.shelve(0, 3, false, 0);
        x.image(1);
        typed(x, " \n ");
        due(3, "read() of blanks", x::read, 0);
        due(3, "shelves stay", () -> x.shelved(0, 3, true), 9);
        dueTrue(3, "images stay", x.again(1));
        due(3, "again has the item", () -> x.count(0), 1);
    }

    private static void faults() {
        faultOf("rooms 5;", 1, 0);
        faultOf("rooma 5;", 1, 0);
        faultOf("roomz 5;", 1, 0);
        faultOf("xoom 5;", 1, 0);
        faultOf("xost 5;", 1, 0);
        faultOf("xtem 5 5;", 1, 0);
        faultOf("roo 5;", 1, 0);
        faultOf("room 5~;", 1, 6);
        faultOf("room 5" + (char) 96, 1, 6);
        faultOf("room 5{", 1, 6);
        faultOf("room 5/;", 1, 6);
        faultOf("room 5:", 1, 6);
        faultOf("room5", 1, 5);
        faultOf("room 5 ", 1, 7);
        faultOf("item 1;", 1, 6);
        faultOf("item 1 2 3;", 1, 9);
        faultOf(" ;", 1, 1);
        faultOf("5", 1, 0);
        faultOf("Room 5;", 1, 0);
        faultOf("room\t5;", 1, 4);
        faultOf("room 12345678901;", 1, 5);
        faultOf("room -5;", 1, 5);
        faultOf("room 5;" + (char) 255, 1, 7);
        faultOf("item room 5;", 1, 5);
        faultOf("room 9999999999; x", 1, 17);
        faultOf("room 2000000001;", 2, 5);
        faultOf("room 9999999999;", 2, 5);
        faultOf("most 1;", 2, 5);
        faultOf("most 1001;", 2, 5);
        faultOf("item 0 1;", 2, 5);
        faultOf("item 1 0;", 2, 7);
        faultOf("item 1000000000 0;", 2, 5);
        faultOf("item 999999999 1;item 999999999 1;item 147483649 1;item 1 1;", 0, 0, 4);
        faultOf("item 999999999 1;item 999999999 1;item 147483650 1;", 4, 39);
        faultOf("item 1 999999999;item 1 999999999;item 1 147483650;", 4, 41);
        faultOf("item 999999999 1;item 999999999 1;item 147483650 0;", 4, 39);
        faultOf("item 999999999 1;item 999999999 1;item 0 147483650;", 2, 39);
        faultOf("item1 1;".repeat(60) + "item0 1;", 3, 480);
        faultOf("item1 1;".repeat(59) + "item1 0;item1 1;", 2, 478);
        KnapsackCore x = typed(new KnapsackCore(), "item1 1;".repeat(60));
        due(3, "read() of 60 items", x::read, 60);
        due(7, "add of a 61st", () -> x.add(1, 1), -1);
        KnapsackCore y = typed(new KnapsackCore(), "room 2000000000;most 1000;room 0;most 2;item 999999999 999999999;");
        due(3, "read() of edges", y::read, 1);
        due(3, "room 0", () -> y.count(1), 0);
        due(3, "most 2", () -> y.count(2), 2);
        typed(y, "x");
        y.read();
        due(4, "fault(true)", () -> y.fault(true), 0);
        y.read();
        due(4, "the latest read() strikes", () -> y.fault(false), 0);
        typed(y, "roomx");
        y.read();
        typed(y, "room");
        y.read();
        due(4, "bytes of an earlier text are none", () -> y.fault(true), 4);
    }

    /** A text with sums that reach the greatest int exactly, and then one more. */
    private static void faultOf(String text, int none, int noPlace, int items) {
        String whole = text.substring(0, text.length() - "item 1 1;".length());
        KnapsackCore x = typed(new KnapsackCore(), whole);
        due(3, "read() up to the greatest int", x::read, items - 1);
        due(4, "fault", () -> x.fault(false), none);
        due(12, "count(18)", () -> x.count(18), HIGH);
        KnapsackCore y = typed(new KnapsackCore(), text);
        due(3, "read() beyond the greatest int", y::read, -1);
        due(4, "fault", () -> y.fault(false), 4);
        due(4, "its place", () -> y.fault(true), whole.length() + 5 + noPlace);
    }

    private static void room() {
        KnapsackCore x = example();
        x.solve();
        dueFalse(5, "room(10)", x.room(10));
        dueFalse(5, "room(-1)", x.room(-1));
        dueFalse(5, "room(2000000001)", x.room(2000000001));
        due(5, "refused: steps stay", () -> x.count(9), 3);
        due(5, "refused: acts stay", () -> x.count(15), 6);
        dueTrue(5, "room(2000000000)", x.room(2000000000));
        due(5, "the core is as at first", () -> x.count(9), 0);
        due(5, "break", () -> x.count(3), 4);
        dueTrue(5, "room(0)", x.room(0));
        due(5, "break", () -> x.count(3), 0);
        due(5, "count(1)", () -> x.count(1), 0);
    }

    private static void most() {
        KnapsackCore x = example();
        x.step();
        dueFalse(6, "most(400)", x.most(400));
        dueFalse(6, "most(1)", x.most(1));
        dueFalse(6, "most(1001)", x.most(1001));
        due(6, "refused: steps stay", () -> x.count(9), 1);
        dueTrue(6, "most(1000)", x.most(1000));
        due(6, "the core is as at first", () -> x.count(9), 0);
        dueTrue(6, "most(2)", x.most(2));
        due(6, "count(2)", () -> x.count(2), 2);
    }

    private static void add() {
        KnapsackCore x = new KnapsackCore();
        for (int wrongNumber : new int[] {0, -1, 1000000000, LOW, HIGH}) {
            due(7, "add(" + wrongNumber + ", 1)", () -> x.add(wrongNumber, 1), -1);
            due(7, "add(1, " + wrongNumber + ")", () -> x.add(1, wrongNumber), -1);
        }
        due(7, "add(999999999, 1)", () -> x.add(999999999, 1), 0);
        due(7, "add(999999999, 1)", () -> x.add(999999999, 1), 1);
        due(7, "add(147483650, 1)", () -> x.add(147483650, 1), -1);
        due(7, "refused: acts", () -> x.count(15), 2);
        due(7, "add(147483649, 999999999)", () -> x.add(147483649, 999999999), 2);
        due(7, "add(1, 1)", () -> x.add(1, 1), -1);
        x.drop(0);
        due(7, "add(1, 999999999)", () -> x.add(1, 999999999), 2);
        due(7, "add(1, 147483650)", () -> x.add(1, 147483650), -1);
        due(7, "add(1, 147483648)", () -> x.add(1, 147483648), 3);
        due(7, "count(19)", () -> x.count(19), HIGH);
        KnapsackCore y = example();
        y.solve();
        due(7, "add(1, 1)", () -> y.add(1, 1), 4);
        due(7, "the core is as at first", () -> y.count(9), 0);
        due(7, "it is last in the order", () -> y.item(4, 2), 4);
    }

    private static void drop() {
        KnapsackCore x = example();
        x.solve();
        due(8, "drop(4)", () -> x.drop(4), -1);
        due(8, "drop(-1)", () -> x.drop(-1), -1);
        due(8, "refused: steps stay", () -> x.count(9), 3);
        due(8, "drop(1)", () -> x.drop(1), 3);
        due(8, "those behind come up", () -> x.item(1, 0), 6);
        due(8, "the core is as at first", () -> x.count(9), 0);
        due(8, "drop(2)", () -> x.drop(2), 2);
        due(8, "drop(2)", () -> x.drop(2), -1);
        due(8, "drop(0)", () -> x.drop(0), 1);
        due(8, "drop(0)", () -> x.drop(0), 0);
        due(8, "count(3)", () -> x.count(3), 0);
    }

    private static void step() {
        KnapsackCore x = example();
        due(9, "step() to the right", x::step, 2);
        due(9, "from", () -> x.count(7), 2);
        due(9, "to", () -> x.count(8), 2);
        due(9, "step() to the left", x::step, 1);
        due(9, "from", () -> x.count(7), 1);
        due(9, "to", () -> x.count(8), 2);
        due(9, "step() to the right", x::step, 0);
        due(9, "to", () -> x.count(8), 3);
        due(9, "proved", () -> x.count(11), 1);
        due(9, "step() when proved", x::step, -1);
        due(9, "refused: acts", () -> x.count(15), 8);
        KnapsackCore y = example();
        y.most(2);
        due(9, "step()", y::step, 2);
        due(9, "step() is stuck", y::step, -2);
        due(9, "steps", () -> y.count(9), 1);
        due(9, "from", () -> y.count(7), 2);
        due(9, "not proved", () -> y.count(11), 0);
        due(9, "acts", () -> y.count(15), 7);
        // All fit: only the left is left, and both sets are bounded away.
        KnapsackCore z = example();
        z.room(18);
        due(9, "step(), all fit", z::step, 0);
        due(9, "from", () -> z.count(7), 3);
        // None fits ahead: 0 is from at once, and what does not fit goes.
        KnapsackCore w = new KnapsackCore();
        w.room(3);
        w.add(4, 40);
        w.add(2, 3);
        w.add(1, 1);
        due(9, "step() of the first, from is 0", w::step, 1);
        due(9, "step() of the second", w::step, 1);
        due(9, "best is better", () -> w.count(12), 3);
        due(9, "step() of the last", w::step, 0);
        due(9, "best is best", () -> w.count(12), 4);
        due(9, "best()", w::best, 6);
    }

    private static void solve() {
        KnapsackCore x = example();
        due(10, "solve()", x::solve, 3);
        due(10, "solve() again", x::solve, -1);
        due(10, "best", () -> x.count(12), 22);
        due(10, "one act", () -> x.count(15), 6);
        KnapsackCore y = example();
        y.step();
        due(10, "solve() behind a step", y::solve, 2);
        KnapsackCore z = example();
        z.most(2);
        due(10, "solve() gets stuck", z::solve, 1);
        due(10, "solve() is stuck", z::solve, -1);
        due(10, "not proved", () -> z.count(11), 0);
    }

    private static void undo() {
        KnapsackCore x = example();
        x.most(3);
        x.drop(0);
        x.undo();
        due(11, "undo() of drop", () -> x.item(0, 1), 10);
        due(11, "undo() of most", x::undo, 5);
        due(11, "count(2)", () -> x.count(2), 400);
        x.step();
        x.solve();
        due(11, "undo() of solve", x::undo, 6);
        due(11, "steps", () -> x.count(9), 1);
        due(11, "sets", () -> x.count(10), 2);
        due(11, "set(1, 1)", () -> x.set(1, 1), 28);
        x.room(11);
        due(11, "undo() of room", x::undo, 6);
        due(11, "the step is there again", () -> x.count(9), 1);
        due(11, "undo() of step", x::undo, 5);
        due(11, "undo() of room", x::undo, 4);
        due(11, "count(1)", () -> x.count(1), 100);
        due(11, "undo() of add", x::undo, 3);
        due(11, "undo()", x::undo, 2);
        due(11, "undo()", x::undo, 1);
        due(11, "undo()", x::undo, 0);
        due(11, "undo()", x::undo, -1);
        for (int k = 1; k <= 12; k++) {
            x.add(k, k);
        }
        due(11, "count(15)", () -> x.count(15), 8);
        for (int k = 7; k >= 0; k--) {
            int left = k;
            due(11, "undo(), " + left + " more", x::undo, left);
        }
        due(11, "none more", x::undo, -1);
        due(11, "four stay", () -> x.count(0), 4);
        x.add(9, 9);
        x.shelve(0, 0, false, 4);
        typed(x, "abc");
        x.undo();
        due(11, "shelves are not undone", () -> x.shelved(0, 0, false), 9);
        due(11, "nor is the text", () -> x.count(16), 3);
    }

    private static void count() {
        KnapsackCore x = typed(example(), "ab");
        x.step();
        long[] want = {4, 10, 400, 2, 9, 22, 24, 2, 2, 1, 2, 0, 22, 9, 2, 6, 2, 1, 18, 37};
        for (int what = 0; what < want.length; what++) {
            int w = what;
            due(12, "count(" + w + ")", () -> x.count(w), want[w]);
        }
        for (int what : new int[] {-1, 20, LOW, HIGH}) {
            due(12, "count(" + what + ")", () -> x.count(what), -1);
        }
        x.room(18);
        due(12, "linear bound, all fit", () -> x.count(6), 37);
        due(12, "none is fixed, all fit", () -> x.count(14), 0);
        KnapsackCore y = new KnapsackCore();
        y.add(999999999, 999999999);
        y.add(999999999, 999999999);
        y.add(147483649, 147483649);
        y.room(2000000000);
        due(12, "linear bound, great", () -> y.count(6), 2000000000);
    }

    private static void item() {
        KnapsackCore x = example();
        int[][] want = {{5, 10, 1, 1, 0}, {4, 12, 0, 1, 1}, {6, 9, 3, 0, 1}, {3, 6, 2, 0, 0}};
        for (int i = 0; i < 4; i++) {
            for (int what = 0; what < 5; what++) {
                int k = i;
                int w = what;
                due(13, "item(" + k + ", " + w + ")", () -> x.item(k, w), want[k][w]);
            }
        }
        for (int no : new int[] {-1, 4, 60, LOW, HIGH}) {
            due(13, "item(" + no + ", 0)", () -> x.item(no, 0), THROWS);
        }
        for (int no : new int[] {-1, 5, LOW, HIGH}) {
            due(13, "item(0, " + no + ")", () -> x.item(0, no), THROWS);
        }
        x.room(18);
        due(13, "not fixed, all fit", () -> x.item(0, 4), 0);
    }

    private static void reduced() {
        KnapsackCore x = example();
        long[] want = {24, 20, 21, 24, 0};
        for (int i = 0; i < want.length; i++) {
            int k = i;
            due(14, "reduced(" + k + ")", () -> x.reduced(k), want[k]);
        }
        due(14, "reduced(-1)", () -> x.reduced(-1), 0);
        x.room(18);
        due(14, "reduced(0), all fit", () -> x.reduced(0), 0);
        KnapsackCore y = new KnapsackCore();
        y.room(2);
        y.add(1, 10);
        y.add(2, 7);
        y.add(50, 1);
        due(14, "reduced(2), rounded down below 0", () -> y.reduced(2), -161);
        due(14, "reduced(0), rounded down", () -> y.reduced(0), 7);
        due(14, "reduced(1), rounded down", () -> y.reduced(1), 13);
    }

    private static void order() {
        KnapsackCore x = example();
        long[] want = {1, 0, 3, 2, -1};
        for (int p = 0; p < want.length; p++) {
            int k = p;
            due(15, "order(" + k + ")", () -> x.order(k), want[k]);
        }
        due(15, "order(-1)", () -> x.order(-1), -1);
        due(15, "order(HIGH)", () -> x.order(HIGH), -1);
        KnapsackCore y = new KnapsackCore();
        y.add(999999998, 999999997);
        y.add(999999999, 999999998);
        y.add(2, 2);
        y.add(3, 3);
        due(15, "floats would not tell", () -> y.order(2), 1);
        due(15, "of like ones the lesser number", () -> y.order(0), 2);
    }

    private static void set() {
        KnapsackCore x = example();
        due(16, "set(0, 2) at first", () -> x.set(0, 2), 24);
        x.step();
        long[][] want = {{9, 22, 23, 3, 2}, {12, 28, 24, 7, 3}};
        for (int s = 0; s < 2; s++) {
            for (int what = 0; what < 5; what++) {
                int k = s;
                int w = what;
                due(16, "set(" + k + ", " + w + ")", () -> x.set(k, w), want[k][w]);
            }
        }
        for (int no : new int[] {-1, 2, 1000, LOW, HIGH}) {
            due(16, "set(" + no + ", 0)", () -> x.set(no, 0), THROWS);
        }
        for (int no : new int[] {-1, 5, LOW, HIGH}) {
            due(16, "set(0, " + no + ")", () -> x.set(0, no), THROWS);
        }
        x.solve();
        due(16, "set(0, 0), none is left", () -> x.set(0, 0), THROWS);
        // What is over, 3, times 10 by 4 is 7.5: 8 go off.
        KnapsackCore y = new KnapsackCore();
        y.room(5);
        y.add(4, 10);
        y.add(4, 9);
        y.step();
        due(16, "the one that is over is left", () -> y.set(0, 0), 8);
        due(16, "bound, rounded up", () -> y.set(0, 2), 11);
    }

    private static void best() {
        KnapsackCore x = example();
        due(17, "best()", x::best, 3);
        x.room(7);
        due(17, "best() at first", x::best, 1);
        x.solve();
        due(17, "best() solved", x::best, 5);
        KnapsackCore y = new KnapsackCore();
        for (int k = 0; k < 60; k++) {
            y.add(1, 1);
        }
        due(17, "best() of 60", y::best, (1L << 60) - 1);
    }

    private static void share() {
        KnapsackCore x = example();
        due(18, "share(0)", () -> x.share(0), 0x40000000);
        due(18, "share(1)", () -> x.share(1), 0x40400000);
        due(18, "share(2)", () -> x.share(2), 0x3FC00000);
        due(18, "share(4)", () -> x.share(4), 0);
        due(18, "share(-1)", () -> x.share(-1), 0);
        x.add(999999999, 1);
        x.add(1, 999999999);
        x.add(3, 1);
        x.add(16777217, 16777219);
        due(18, "share(4)", () -> x.share(4), Float.floatToRawIntBits(1f / 999999999f));
        due(18, "share(5)", () -> x.share(5), Float.floatToRawIntBits(999999999f));
        due(18, "share(6)", () -> x.share(6), 0x3EAAAAAB);
        due(18, "share(7)", () -> x.share(7), Float.floatToRawIntBits((float) 16777219 / (float) 16777217));
    }

    private static void linear() {
        KnapsackCore x = example();
        due(19, "linear()", x::linear, 0x4038000000000000L);
        x.room(18);
        due(19, "linear(), all fit", x::linear, Double.doubleToRawLongBits(37.0));
        x.room(0);
        due(19, "linear(), no room", x::linear, 0);
        KnapsackCore y = new KnapsackCore();
        y.room(1);
        y.add(999999999, 1);
        due(19, "linear(), small", y::linear, Double.doubleToRawLongBits(1.0 / 999999999.0));
        y.room(999999998);
        y.drop(0);
        y.add(999999999, 999999997);
        due(19, "linear(), rounded", y::linear,
                Double.doubleToRawLongBits(999999998.0 * 999999997.0 / 999999999.0));
    }

    private static void part() {
        KnapsackCore x = example();
        due(20, "part(1, 2)", () -> x.part(1, 2), 12);
        due(20, "part(-1, 5)", () -> x.part(-1, 5), -4);
        due(20, "part(1, -7)", () -> x.part(1, -7), -3);
        due(20, "part(5, 0)", () -> x.part(5, 0), 0);
        due(20, "part(0, 0)", () -> x.part(0, 0), 0);
        due(20, "part(HIGH, 1)", () -> x.part(HIGH, 1), HIGH);
        due(20, "part(LOW, 1)", () -> x.part(LOW, 1), LOW);
        due(20, "part(LOW, -1)", () -> x.part(LOW, -1), HIGH);
        due(20, "part(HIGH, HIGH)", () -> x.part(HIGH, HIGH), 24);
        x.room(0);
        due(20, "part(-5, 3) of nothing", () -> x.part(-5, 3), 0);
    }

    private static void greedy() {
        KnapsackCore x = example();
        x.room(16);
        // 4, 5, 3 fit together, 6 does not; then, with 15, it does in the place of the 3.
        due(21, "greedy(0)", () -> x.greedy(0), 28);
        due(21, "greedy(1)", () -> x.greedy(1), 12);
        due(21, "greedy(2)", () -> x.greedy(2), 7);
        x.room(6);
        due(21, "greedy(0), over one that does not fit", () -> x.greedy(0), 12);
        x.room(8);
        due(21, "greedy(1)", () -> x.greedy(1), 7);
        due(21, "greedy(2)", () -> x.greedy(2), 5);
        for (int no : new int[] {-1, 3, LOW, HIGH}) {
            due(21, "greedy(" + no + ")", () -> x.greedy(no), -1);
        }
    }

    private static void swap() {
        KnapsackCore x = example();
        due(22, "swap(0), none", () -> x.swap(0), 0);
        due(22, "swap(1), none", () -> x.swap(1), -1);
        due(22, "swap(2), none", () -> x.swap(2), -1);
        KnapsackCore y = new KnapsackCore();
        y.room(8);
        y.add(8, 13);
        y.add(7, 13);
        y.add(5, 10);
        due(22, "swap(0)", () -> y.swap(0), 3);
        due(22, "swap(1)", () -> y.swap(1), 2);
        due(22, "swap(2), the first by place", () -> y.swap(2), 1);
        for (int no : new int[] {-1, 3, LOW, HIGH}) {
            due(22, "swap(" + no + ")", () -> y.swap(no), -1);
        }
        KnapsackCore z = new KnapsackCore();
        z.room(10);
        z.add(4, 8);
        z.add(4, 8);
        z.add(6, 11);
        due(22, "swap(1), the first that goes", () -> z.swap(1), 0);
        z.solve();
        due(22, "swap(0) of the best", () -> z.swap(0), 0);
    }

    private static void front() {
        KnapsackCore x = example();
        long[][] want = {{0, 0, 0, 1}, {3, 6, 4, 0}, {4, 12, 1, 1}, {7, 18, 5, 0},
            {9, 22, 3, 0}, {12, 28, 7, 1}, {15, 31, 11, 0}, {18, 37, 15, 1}};
        due(23, "front(-1, 0)", () -> x.front(-1, 0), 8);
        for (int s = 0; s < want.length; s++) {
            for (int what = 0; what < 4; what++) {
                int k = s;
                int w = what;
                due(23, "front(" + k + ", " + w + ")", () -> x.front(k, w), want[k][w]);
            }
        }
        for (int no : new int[] {-1, -2, 8, LOW, HIGH}) {
            due(23, "front(" + no + ", 1)", () -> x.front(no, 1), -1);
        }
        for (int no : new int[] {-1, 4, LOW, HIGH}) {
            due(23, "front(0, " + no + ")", () -> x.front(0, no), -1);
        }
        due(23, "front(-2, 0)", () -> x.front(-2, 0), -1);
        x.most(7);
        due(23, "front(0, 0), stuck", () -> x.front(0, 0), -2);
        due(23, "front(99, 99), stuck first", () -> x.front(99, 99), -2);
        x.most(8);
        due(23, "front(-1, 0), just not stuck", () -> x.front(-1, 0), 8);
        KnapsackCore y = new KnapsackCore();
        y.add(1, 1);
        y.add(1, 1);
        due(23, "of like ones the lesser bits", () -> y.front(1, 2), 1);
    }

    private static void other() {
        KnapsackCore x = example();
        long[][] want = {{0, 0}, {3, 6}, {8, 18}, {10, 22}, {12, 28}, {17, 31}, {18, 37}, {2000000000, 37}};
        for (long[] pair : want) {
            due(24, "other(" + pair[0] + ")", () -> x.other((int) pair[0]), pair[1]);
        }
        for (int no : new int[] {-1, 2000000001, LOW, HIGH}) {
            due(24, "other(" + no + ")", () -> x.other(no), -1);
        }
        due(24, "nothing changes", () -> x.count(1) * 10 + x.count(9), 100);
        x.most(2);
        due(24, "other(10), stuck", () -> x.other(10), -1);
        due(24, "other(18), not stuck", () -> x.other(18), 37);
    }

    private static void without() {
        KnapsackCore x = example();
        due(25, "without(0)", () -> x.without(0), 21);
        due(25, "without(1)", () -> x.without(1), 16);
        due(25, "without(2)", () -> x.without(2), 22);
        due(25, "without(4)", () -> x.without(4), -1);
        due(25, "without(-1)", () -> x.without(-1), -1);
        due(25, "nothing changes", () -> x.count(0), 4);
        x.most(2);
        due(25, "without(2), just not stuck", () -> x.without(2), 22);
        x.add(1, 1);
        due(25, "without(4), stuck", () -> x.without(4), -1);
        KnapsackCore y = new KnapsackCore();
        y.add(1, 1);
        due(25, "without the only one", () -> y.without(0), 0);
    }

    private static void with() {
        KnapsackCore x = example();
        due(26, "with(0)", () -> x.with(0), 22);
        due(26, "with(1)", () -> x.with(1), 22);
        due(26, "with(2)", () -> x.with(2), 21);
        due(26, "with(3)", () -> x.with(3), 18);
        due(26, "with(4)", () -> x.with(4), -1);
        due(26, "with(-1)", () -> x.with(-1), -1);
        x.room(6);
        due(26, "with(2), just fits", () -> x.with(2), 9);
        x.room(5);
        due(26, "with(2), does not fit", () -> x.with(2), -1);
        // 8 is left for 4 12, 5 10, 3 6: to the right, then to the left there are four sets.
        KnapsackCore y = example();
        y.add(1, 1);
        y.room(9);
        y.most(2);
        due(26, "with(4), stuck", () -> y.with(4), -1);
    }

    private static void least() {
        KnapsackCore x = example();
        long[][] want = {{0, 0}, {1, 3}, {6, 3}, {7, 4}, {22, 9}, {23, 12}, {37, 18}, {38, -1}, {-1, -1}};
        for (long[] pair : want) {
            due(27, "least(" + pair[0] + ")", () -> x.least((int) pair[0]), pair[1]);
        }
        due(27, "least(LOW)", () -> x.least(LOW), -1);
        due(27, "least(HIGH)", () -> x.least(HIGH), -1);
        x.most(2);
        due(27, "least(37), 9 is asked and stuck", () -> x.least(22), -1);
        KnapsackCore y = new KnapsackCore();
        y.add(999999999, 3);
        y.add(999999999, 3);
        y.add(147483649, 3);
        due(27, "least(9), beyond all rooms", () -> y.least(9), -1);
        due(27, "least(6)", () -> y.least(6), 1147483648);
        y.drop(2);
        y.add(1, 1);
        due(27, "least(7)", () -> y.least(7), 1999999999);
    }

    private static void ahead() {
        KnapsackCore x = example();
        due(28, "ahead(false)", () -> x.ahead(false), 3);
        due(28, "ahead(true)", () -> x.ahead(true), 2);
        x.step();
        due(28, "ahead(false) behind a step", () -> x.ahead(false), 2);
        due(28, "ahead(true), those now", () -> x.ahead(true), 2);
        x.step();
        due(28, "ahead(true), those now", () -> x.ahead(true), 1);
        x.step();
        due(28, "ahead(false), proved", () -> x.ahead(false), 0);
        due(28, "ahead(true), proved", () -> x.ahead(true), 0);
        x.most(2);
        due(28, "ahead(false), gets stuck", () -> x.ahead(false), 1);
        due(28, "ahead(true), gets stuck", () -> x.ahead(true), 2);
        due(28, "nothing changes", () -> x.count(9), 0);
    }

    private static void shelve() {
        KnapsackCore x = example();
        x.step();
        due(29, "shelve(0, 0, false, 1)", () -> x.shelve(0, 0, false, 1), 0);
        due(29, "shelve(1, 3, true, 1)", () -> x.shelve(1, 3, true, 1), 0);
        due(29, "a set on shelf 0", () -> x.shelve(0, 1, true, 0), -2);
        due(29, "an item on shelf 1", () -> x.shelve(1, 1, false, 0), -2);
        due(29, "no such set on shelf 0", () -> x.shelve(0, 1, true, 2), -1);
        due(29, "no such item on shelf 1", () -> x.shelve(1, 1, false, 4), -1);
        for (int no : new int[] {-1, 2, LOW, HIGH}) {
            due(29, "shelf " + no, () -> x.shelve(no, 0, false, 0), -1);
        }
        for (int no : new int[] {-1, 4, LOW, HIGH}) {
            due(29, "place or item " + no, () -> x.shelve(0, no, false, 0) + x.shelve(0, 0, false, no), -2);
        }
        due(29, "no such set", () -> x.shelve(1, 0, true, 2), -1);
        due(30, "shelved(0, 0, false)", () -> x.shelved(0, 0, false), 4);
        due(30, "shelved(0, 0, true)", () -> x.shelved(0, 0, true), 12);
        due(30, "shelved(1, 3, false)", () -> x.shelved(1, 3, false), 12);
        due(30, "shelved(1, 3, true)", () -> x.shelved(1, 3, true), 28);
        due(30, "refused: nothing came", () -> x.shelved(0, 1, true), -1);
        due(30, "nothing there", () -> x.shelved(1, 0, false), -1);
        for (int no : new int[] {-1, 2, 4, LOW, HIGH}) {
            due(30, "shelf " + no, () -> x.shelved(no, 0, true), -1);
        }
        for (int no : new int[] {-1, 4, LOW, HIGH}) {
            due(30, "place " + no, () -> x.shelved(0, no, true), -1);
        }
        x.drop(1);
        due(30, "it stays as it was then", () -> x.shelved(0, 0, true), 12);
        x.shelve(0, 0, false, 0);
        due(30, "another one in its place", () -> x.shelved(0, 0, true), 10);
        KnapsackCore y = new KnapsackCore();
        due(29, "the empty set", () -> y.shelve(1, 0, true, 0), 0);
        due(30, "the empty set", () -> y.shelved(1, 0, true), 0);
    }

    private static void images() {
        KnapsackCore x = typed(example(), "most");
        x.step();
        x.shelve(1, 2, true, 1);
        for (int no : new int[] {-1, 3, LOW, HIGH}) {
            dueFalse(31, "image(" + no + ")", x.image(no));
            dueFalse(32, "again(" + no + ")", x.again(no));
        }
        dueFalse(32, "again(0), none is kept", x.again(0));
        dueTrue(31, "image(0)", x.image(0));
        due(31, "what can be undone stays", () -> x.count(15), 6);
        typed(x, "!");
        x.read();
        x.shelve(1, 2, true, 0);
        x.solve();
        x.drop(0);
        x.room(77);
        x.most(2);
        dueTrue(31, "image(2)", x.image(2));
        dueTrue(32, "again(0)", x.again(0));
        due(32, "items", () -> x.count(0), 4);
        due(32, "room", () -> x.count(1), 10);
        due(32, "most", () -> x.count(2), 400);
        due(32, "steps", () -> x.count(9), 1);
        due(32, "set(1, 1)", () -> x.set(1, 1), 28);
        due(32, "text", () -> x.count(16), 4);
        due(32, "fault", () -> x.fault(false), 0);
        due(32, "fault's place", () -> x.fault(true), -1);
        due(32, "shelves", () -> x.shelved(1, 2, true), 28);
        due(32, "nothing can be undone", x::undo, -1);
        dueTrue(32, "again(2)", x.again(2));
        due(32, "room", () -> x.count(1), 77);
        due(32, "fault", () -> x.fault(false), 1);
        due(32, "fault's place", () -> x.fault(true), 4);
        due(32, "shelves", () -> x.shelved(1, 2, true), 22);
        typed(x, "room");
        dueTrue(32, "again(0), still kept", x.again(0));
        typed(x, " 5;");
        due(32, "the text goes on as kept", x::read, 0);
        due(32, "it was most 5;", () -> x.count(2), 5);
    }

    /** What is proved must be the true optimum, found here room by room. */
    private static void optima() {
        Random random = new Random(7);
        for (int run = 0; run < 300; run++) {
            KnapsackCore x = new KnapsackCore();
            x.most(1000);
            int items = 1 + random.nextInt(14);
            int[] w = new int[items];
            int[] p = new int[items];
            int all = 0;
            for (int k = 0; k < items; k++) {
                w[k] = 1 + random.nextInt(20);
                p[k] = run % 2 == 0 ? w[k] + 3 : 1 + random.nextInt(30);
                all += w[k];
                x.add(w[k], p[k]);
            }
            int room = random.nextInt(all + 2);
            x.room(room);
            int given = random.nextInt(items);
            due(24, "other, run " + run, () -> x.other(room), optimum(w, p, room, -1));
            due(25, "without, run " + run, () -> x.without(given), optimum(w, p, room, given));
            due(26, "with, run " + run, () -> x.with(given),
                    room < w[given] ? -1 : p[given] + optimum(w, p, room - w[given], given));
            int wanted = 1 + random.nextInt(optimum(w, p, all, -1));
            int least = 0;
            while (optimum(w, p, least, -1) < wanted) {
                least++;
            }
            int found = least;
            due(27, "least, run " + run, () -> x.least(wanted), found);
            x.solve();
            due(10, "proved, run " + run, () -> x.count(11), 1);
            due(10, "best, run " + run, () -> x.count(12), optimum(w, p, room, -1));
            long weight = 0;
            long profit = 0;
            for (int k = 0; k < items; k++) {
                weight += x.item(k, 3) * w[k];
                profit += x.item(k, 3) * p[k];
            }
            long ownWeight = weight;
            long ownProfit = profit;
            due(17, "weight of best, run " + run, () -> x.count(13), ownWeight);
            due(17, "profit of best, run " + run, () -> x.count(12), ownProfit);
        }
    }

    private static int optimum(int[] w, int[] p, int room, int left) {
        int[] most = new int[room + 1];
        for (int k = 0; k < w.length; k++) {
            for (int r = room; k != left && r >= w[k]; r--) {
                most[r] = Math.max(most[r], most[r - w[k]] + p[k]);
            }
        }
        return most[room];
    }

    public static void main(String[] args) {
        newObject();
        type();
        read();
        faults();
        room();
        most();
        add();
        drop();
        step();
        solve();
        undo();
        count();
        item();
        reduced();
        order();
        set();
        best();
        share();
        linear();
        part();
        greedy();
        swap();
        front();
        other();
        without();
        with();
        least();
        ahead();
        shelve();
        images();
        optima();
        end("all promises hold");
    }
}
