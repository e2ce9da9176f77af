import java.util.List;

/** Each sentence of the terms on ORDER, BREAK, SETS, STEPS, REDUCED, GREEDY, SWAP, FRONT that names an edge. */
public final class CoreEdgeTest extends Checks {
    private static final String ORDER = "Terms 2, ORDER";
    private static final String SET = "Terms 2, A SET";
    private static final String CORE = "Terms 2, The CORE";
    private static final String STEP = "Terms 2, A STEP";
    private static final String BOUND = "Terms 2, BOUND";
    private static final String REDUCED = "Terms 2, REDUCED";

    /** Efficiencies 10, 9, 8 2/3, 8; the break is at place 2, 67 the profit of the break set. */
    private static KnapsackCore four() {
        return sack(8, 4, 40, 3, 27, 3, 26, 10, 80);
    }

    /** Efficiencies 10, 9, 8, 7; the break is at place 1, so that 0 is reached before the last place. */
    private static KnapsackCore early() {
        return sack(8, 4, 40, 5, 45, 6, 48, 7, 49);
    }

    /** 60 items of which the last in the order alone fits. */
    private static KnapsackCore lastAlone() {
        KnapsackCore x = sack(1, 1, 1);
        for (int k = 0; k < 59; k++) {
            x.add(2, 100);
        }
        return x;
    }

    /** Each set there is: weight, profit, bound, bits. */
    private static void setsAre(String when, KnapsackCore x, long[]... want) {
        due(when + ", count(10)", () -> x.count(10), want.length);
        for (int s = 0; s < want.length; s++) {
            for (int what = 0; what < 4; what++) {
                int set = s;
                int w = what;
                due(when + ", set(" + set + ", " + w + ")", () -> x.set(set, w), want[set][w]);
            }
        }
    }

    private static void coreIs(String when, KnapsackCore x, int from, int to, int steps) {
        due(when + ", FROM", () -> x.count(7), from);
        due(when + ", TO", () -> x.count(8), to);
        due(when + ", STEPS", () -> x.count(9), steps);
    }

    private static void bestIs(String when, KnapsackCore x, int profit, int weight, long bits) {
        due(when + ", PROFIT of BEST", () -> x.count(12), profit);
        due(when + ", WEIGHT of BEST", () -> x.count(13), weight);
        due(when + ", bits of BEST", x::best, bits);
    }

    private static void order() {
        sentence(ORDER, "ITEMS by EFFICIENCY, the greater ahead");
        KnapsackCore x = sack(5, 999999998, 999999997, 999999999, 999999998);
        due("unlike by less than doubles tell", () -> x.order(0), 1);
        KnapsackCore y = sack(5, 999999999, 1, 999999998, 1, 1, 1);
        due("the greatest", () -> y.order(0), 2);
        due("1 by 999999998", () -> y.order(1), 1);
        due("1 by 999999999", () -> y.order(2), 0);

        sentence(ORDER, "of like ones the lesser number");
        KnapsackCore z = sack(5, 999999999, 666666666, 6, 4, 3, 2, 3, 2, 3, 3);
        for (int place = 0; place < 5; place++) {
            int p = place;
            due("order(" + p + ")", () -> z.order(p), p == 0 ? 4 : p - 1);
        }
        z.drop(0);
        due("the numbers are those of now", () -> z.order(1), 0);

        sentence(ORDER, "Places in it from 0 on");
        KnapsackCore full = lastAlone();
        due("order(59)", () -> full.order(59), 0);
        due("item(0, 2)", () -> full.item(0, 2), 59);
        due("order(0)", () -> full.order(0), 1);
        due("order(60)", () -> full.order(60), -1);
    }

    private static void breaking() {
        sentence(ORDER, "BREAK: the first place of which the ITEM does not fit with all ahead of it (more than ROOM)");
        KnapsackCore x = example();
        int[][] want = {{0, 0}, {3, 0}, {4, 1}, {8, 1}, {9, 2}, {11, 2}, {12, 3}, {17, 3}};
        for (int[] pair : want) {
            x.room(pair[0]);
            due("BREAK of a ROOM of " + pair[0], () -> x.count(3), pair[1]);
        }

        sentence(ORDER, "how many ITEMS there are, if all fit");
        x.room(18);
        due("all fit, just so", () -> x.count(3), 4);
        x.room(2000000000);
        due("all fit", () -> x.count(3), 4);
        due("no ITEMS", () -> new KnapsackCore().count(3), 0);
        due("no ITEMS, no ROOM", () -> sack(0).count(3), 0);

        sentence(ORDER, "The BREAK SET: all ahead of BREAK");
        x.room(8);
        due("one behind BREAK that would fit is not in it", () -> x.count(4), 4);
        due("its PROFIT", () -> x.count(5), 12);
        x.room(3);
        due("none is ahead", () -> x.count(4) + x.count(5), 0);
        x.room(18);
        due("all are ahead", () -> x.count(4), 18);

        sentence(ORDER, "LINEAR BOUND: that rounded down");
        int[][] bounds = {{0, 0}, {1, 3}, {4, 12}, {8, 20}, {10, 24}, {13, 29}, {17, 35}, {18, 37}, {19, 37}};
        for (int[] pair : bounds) {
            x.room(pair[0]);
            due("LINEAR BOUND of a ROOM of " + pair[0], () -> x.count(6), pair[1]);
        }
        due("less than 1", () -> sack(999999998, 999999999, 1).count(6), 0);
        due("great numbers", () -> sack(2000000000, 999999999, 999999999, 999999999, 999999999,
                147483649, 147483649).count(6), 2000000000);
    }

    private static void sets() {
        sentence(SET, "bits by places in the ORDER");
        KnapsackCore x = lastAlone();
        x.solve();
        bestIs("place 59", x, 1, 1, 1L << 59);
        KnapsackCore all = sack(60);
        for (int k = 0; k < 60; k++) {
            all.add(1, 1);
        }
        setsAre("all 60 places", all, new long[] {60, 60, 60, (1L << 60) - 1});
        due("how many ITEMS", () -> all.set(0, 4), 60);
        KnapsackCore none = sack(0, 1, 1);
        setsAre("no place", none, new long[] {0, 0, 0, 0});
        due("how many ITEMS", () -> none.set(0, 4), 0);

        sentence(SET, "it FITS, if its WEIGHT is ROOM or less");
        due("just ROOM", () -> sack(4, 4, 1).count(17), 1);
        KnapsackCore just = sack(5, 4, 12, 3, 8, 5, 13);
        just.solve();
        bestIs("just ROOM", just, 13, 5, 4);
        KnapsackCore over = sack(5, 4, 12, 3, 8, 6, 15);
        over.solve();
        bestIs("one over", over, 12, 4, 1);
        KnapsackCore y = four();
        y.step();
        due("SETS of 7 and 10 in a ROOM of 8", () -> y.count(17), 1);
        y.step();
        due("SETS of 4, 7 and 10 in a ROOM of 8", () -> y.count(17), 2);
        y.solve();
        due("no SETS", () -> y.count(17), 0);
    }

    private static void domination() {
        sentence(SET, "DOMINATES another one, if it has no more WEIGHT and no less PROFIT, and either is unlike");
        KnapsackCore profit = sack(8, 4, 40, 3, 27, 3, 26, 10, 80);
        profit.most(3);
        profit.step();
        due("like WEIGHT, more PROFIT", profit::step, 3);
        due("the one with more PROFIT is left", () -> profit.set(1, 1), 67);
        KnapsackCore weight = sack(9, 4, 40, 3, 27, 4, 27, 10, 67);
        weight.most(3);
        weight.step();
        due("like PROFIT, less WEIGHT", weight::step, 3);
        due("the one with less WEIGHT is left", () -> weight.set(1, 0), 7);
        KnapsackCore front = sack(0, 2, 4, 2, 3, 3, 4);
        due("the FRONT: {}, 2 4, 4 7, 5 8, 7 11", () -> front.front(-1, 0), 5);
        due("front(1, 2)", () -> front.front(1, 2), 1);

        sentence(SET, "or both are alike and its bits are the lesser number (without sign)");
        KnapsackCore alike = sack(8, 4, 40, 3, 27, 3, 27, 10, 80);
        alike.most(3);
        alike.step();
        due("alike: one is left", alike::step, 3);
        due("its bits", () -> alike.set(1, 3), 3);
        KnapsackCore twins = sack(0);
        for (int k = 0; k < 60; k++) {
            twins.add(1, 1);
        }
        due("61 SETS of 60 alike", () -> twins.front(-1, 0), 61);
        for (int k = 0; k <= 60; k++) {
            int one = k;
            due("front(" + one + ", 2)", () -> twins.front(one, 2), (1L << one) - 1);
        }

        sentence(SET, "[only then]: less of both, more of both do not DOMINATE");
        KnapsackCore ladder = sack(0, 1, 1, 2, 2, 4, 4);
        due("8 SETS", () -> ladder.front(-1, 0), 8);
    }

    private static void atFirst() {
        sentence(CORE, "none at first: FROM is BREAK, TO one less");
        coreIs("BREAK is 0", sack(0, 1, 1), 0, -1, 0);
        coreIs("BREAK is 2", four(), 2, 1, 0);
        coreIs("all fit", sack(1, 1, 1), 1, 0, 0);
        coreIs("no ITEMS", new KnapsackCore(), 0, -1, 0);

        sentence(CORE, "SETS: the BREAK SET alone at first; BEST: that. STEPS: 0 at first");
        setsAre("BREAK is 2", four(), new long[] {7, 67, 75, 3});
        bestIs("BREAK is 2", four(), 67, 7, 3);
        setsAre("no ITEMS", new KnapsackCore(), new long[] {0, 0, 0, 0});
        bestIs("no ITEMS", new KnapsackCore(), 0, 0, 0);

        sentence(CORE, "PROVED: there are no SETS");
        KnapsackCore x = example();
        x.solve();
        coreIs("solved", x, 1, 3, 3);
        due("PROVED", () -> x.count(11), 1);
        due("step()", x::step, -1);

        sentence(CORE, "PROVED: or FROM is 0 and TO the last place");
        KnapsackCore y = early();
        due("solve()", y::solve, 4);
        coreIs("solved", y, 0, 3, 4);
        due("PROVED", () -> y.count(11), 1);
        due("step()", y::step, -1);
        due("no ITEMS, step()", () -> new KnapsackCore().step(), -1);
        KnapsackCore one = sack(1, 1, 1);
        one.solve();
        due("one ITEM, solved", () -> one.count(11), 1);
        due("one ITEM at first is not PROVED, though it fits", () -> sack(1, 1, 1).count(11), 0);
        due("one ITEM at first is not PROVED, though it does not fit", () -> sack(0, 1, 1).count(11), 0);
    }

    private static void direction() {
        sentence(STEP, "RIGHT, if STEPS made is even and TO is not the last place");
        KnapsackCore x = four();
        x.step();
        coreIs("STEPS 0", x, 2, 2, 1);

        sentence(STEP, "else LEFT [STEPS made is odd]");
        x.step();
        coreIs("STEPS 1", x, 1, 2, 2);
        x.step();
        coreIs("STEPS 2, right again", x, 1, 3, 3);
        x.step();
        coreIs("STEPS 3", x, 0, 3, 4);

        sentence(STEP, "else LEFT [STEPS made is even, but TO is the last place]");
        KnapsackCore three = sack(8, 4, 40, 3, 27, 3, 26);
        three.step();
        three.step();
        coreIs("STEPS 1", three, 1, 2, 2);
        three.step();
        coreIs("STEPS 2", three, 0, 2, 3);
        KnapsackCore all = sack(18, 4, 40, 3, 27, 3, 26);
        all.step();
        coreIs("STEPS 0, all fit", all, 2, 2, 1);

        sentence(STEP, "or FROM is 0 [STEPS made is odd]");
        KnapsackCore y = early();
        y.step();
        y.step();
        y.step();
        coreIs("STEPS 2", y, 0, 2, 3);
        y.step();
        coreIs("STEPS 3", y, 0, 3, 4);
        KnapsackCore z = lastAlone();
        due("60 STEPS to the right", z::solve, 60);
        coreIs("solved", z, 0, 59, 60);
    }

    private static void stepping() {
        sentence(STEP, "RIGHT: of each SET a further one is made, which has the ITEM at TO, too");
        KnapsackCore x = four();
        x.step();
        setsAre("RIGHT", x, new long[] {7, 67, 75, 3}, new long[] {10, 93, 75, 7});

        sentence(STEP, "LEFT: a further one is made of each without the ITEM at FROM");
        x.step();
        setsAre("LEFT", x, new long[] {4, 40, 72, 1}, new long[] {7, 67, 75, 3}, new long[] {10, 93, 73, 7});
        x.step();
        setsAre("RIGHT again", x, new long[] {10, 93, 73, 7});
        x.step();
        setsAre("LEFT again", x);

        sentence(STEP, "Are there more than MOST then, the STEP is not made: it is STUCK");
        KnapsackCore just = four();
        just.most(3);
        just.step();
        due("just MOST", just::step, 3);
        refused("step(), one more than MOST", () -> {
            KnapsackCore y = four();
            y.most(2);
            y.step();
            return y;
        }, y -> y.step(), -2);
        KnapsackCore two = sack(8, 4, 40, 3, 27, 3, 26);
        two.most(2);
        two.step();
        two.step();
        due("MOST counts what is there ahead of the BOUNDS", () -> two.count(10), 1);
        KnapsackCore ahead = early();
        ahead.most(3);
        ahead.step();
        due("4 SETS, of which 3 would stay: STUCK", ahead::step, -2);
        ahead.most(4);
        ahead.step();
        due("4 SETS, of which 3 stay", ahead::step, 3);

        sentence(STEP, "if a SET that FITS has more PROFIT than BEST");
        KnapsackCore like = sack(9, 4, 40, 3, 27, 4, 27, 10, 1);
        like.step();
        setsAre("the BREAK SET is gone", like, new long[] {11, 94, 76, 7});
        like.step();
        setsAre("another one with like PROFIT came and went", like, new long[] {11, 94, 74, 7});
        bestIs("like PROFIT is not more", like, 67, 7, 3);
        KnapsackCore more = sack(9, 4, 40, 3, 27, 4, 28, 10, 1);
        more.step();
        more.step();
        bestIs("1 more", more, 68, 8, 5);

        sentence(STEP, "that with most PROFIT is BEST");
        KnapsackCore most = sack(100, 101, 1000, 1, 5, 50, 100);
        most.step();
        most.step();
        bestIs("before", most, 5, 1, 2);
        most.step();
        bestIs("100 and 105 are more", most, 105, 51, 6);
    }

    private static void bounds() {
        sentence(STEP, "Then each goes whose BOUND is no more than the PROFIT of BEST");
        KnapsackCore fits = sack(5, 4, 12, 3, 6, 2, 2);
        fits.step();
        setsAre("BOUND 1 more; the other's is the same", fits, new long[] {4, 12, 13, 1});
        KnapsackCore same = sack(5, 4, 12, 3, 6, 2, 1);
        due("BOUNDS are the same", same::step, 0);
        KnapsackCore over = sack(5, 4, 12, 3, 7);
        over.step();
        setsAre("BOUND 1 more of one that does not FIT", over, new long[] {7, 19, 13, 3});
        KnapsackCore both = example();
        both.room(9);
        due("BOUNDS of both are the same", both::step, 0);

        sentence(BOUND, "of a SET that FITS: its PROFIT, and, if there is a place behind TO, .. rounded down");
        KnapsackCore down = sack(5, 4, 12, 3, 6, 4, 7);
        down.step();
        setsAre("1 and 3 quarters", down, new long[] {4, 12, 13, 1});
        KnapsackCore nearly = sack(5, 4, 12, 3, 6, 100, 99);
        due("99 hundredths", nearly::step, 0);
        KnapsackCore none = sack(5, 4, 12, 3, 7);
        due("no place behind TO: the PROFIT alone, so it goes", none::step, 1);
        due("all fit: no place behind TO", () -> sack(9, 4, 12).set(0, 2), 12);
        due("great numbers", () -> sack(999999998, 999999999, 999999999).set(0, 2), 999999998);
        due("greatest numbers", () -> sack(2000000000, 1000000, 999999999, 999999999, 999999999,
                999999999, 7).set(0, 2), 1999999998 + 6);

        sentence(BOUND, "of one that does not FIT: its PROFIT less what it is over times .., rounded up");
        KnapsackCore up = sack(5, 4, 10, 4, 9);
        up.step();
        setsAre("7 and a half is 8", up, new long[] {8, 19, 11, 3});
        due("7 and a half is 8, which is too much", () -> sack(5, 4, 10, 4, 8).step(), 0);
        KnapsackCore even = sack(6, 4, 10, 4, 9);
        even.step();
        setsAre("just 5", even, new long[] {8, 19, 14, 3});

        sentence(BOUND, "(such a one goes in any case, if there is no place ahead of FROM)");
        KnapsackCore first = sack(3, 4, 999999999, 2, 3);
        first.step();
        setsAre("FROM is 0", first, new long[] {0, 0, 4, 0});
        KnapsackCore x = early();
        x.step();
        x.step();
        setsAre("FROM gets 0", x, new long[] {0, 0, 64, 0}, new long[] {4, 40, 72, 1}, new long[] {5, 45, 69, 2});

        sentence("Terms 2", "SETS are numbered from 0 on by WEIGHT, rising");
        due("set(0, 0)", () -> x.set(0, 0), 0);
        due("set(1, 0)", () -> x.set(1, 0), 4);
        due("set(2, 0)", () -> x.set(2, 0), 5);
        due("set(3, 0)", () -> x.set(3, 0), THROWS);
    }

    private static void anew() {
        sentence("Terms 2", "A new ROOM: all that is from CORE on is as at first");
        KnapsackCore x = four();
        x.solve();
        x.room(9);
        sameAsNew("room", x, sack(9, 4, 40, 3, 27, 3, 26, 10, 80));
        x.solve();
        x.room(8);
        sameAsNew("room, as it was", x, four());

        sentence("Terms 2", "MOST");
        x.solve();
        x.most(3);
        KnapsackCore three = four();
        three.most(3);
        sameAsNew("most", x, three);
        x.most(400);

        sentence("Terms 2", "an ITEM that comes");
        x.solve();
        x.add(999999999, 1);
        sameAsNew("add", x, sack(8, 4, 40, 3, 27, 3, 26, 10, 80, 999999999, 1));

        sentence("Terms 2", "[an ITEM that] goes");
        x.solve();
        x.drop(4);
        sameAsNew("drop", x, four());

        sentence("Terms 2", "all that is from CORE on is as at first [and is so behind an undo(), an again(), too]");
        KnapsackCore y = four();
        y.step();
        y.room(9);
        y.image(0);
        y.add(1, 1);
        y.undo();
        coreIs("undo()", y, 2, 1, 0);
        y.again(0);
        coreIs("again()", y, 2, 1, 0);
    }

    private static void sameAsNew(String what, KnapsackCore x, KnapsackCore fresh) {
        List<String> is = seen(x);
        List<String> want = seen(fresh);
        is.removeIf(row -> row.startsWith("count(15)"));
        want.removeIf(row -> row.startsWith("count(15)"));
        same(what, is, want);
    }

    private static void reduced() {
        sentence(REDUCED, "if BREAK is an ITEM's");
        due("all fit, just so", () -> sack(4, 4, 40).reduced(0), 0);
        due("all fit: none is FIXED", () -> sack(4, 4, 40).count(14) + sack(4, 4, 40).item(0, 4), 0);
        due("one less", () -> sack(3, 4, 40).reduced(0), 30);

        sentence(REDUCED, "of one ahead of BREAK: .. rounded down");
        due("6 and 2 thirds", () -> sack(4, 3, 10, 3, 5).reduced(0), 6);
        due("just ahead", () -> four().reduced(1), 67 - 27 + 34);
        due("the first", () -> four().reduced(0), 67 - 40 + 43);

        sentence(REDUCED, "of one from BREAK on: .. rounded down (also below 0)");
        due("at BREAK it is LINEAR BOUND", () -> four().reduced(2), 75);
        due("behind BREAK", () -> four().reduced(3), 67 + 80 - 78);
        due("-171 and a half is -172", () -> sack(2, 1, 10, 2, 7, 50, 1).reduced(2), -161);
        due("far below 0", () -> sack(1, 1, 999999999, 1, 999999998, 999999999, 1).reduced(2), -999999996000000002L);
        due("great numbers", () -> sack(2000000000, 999999999, 999999999, 999999999, 999999999,
                147483649, 147483649).reduced(0), 2000000000);

        sentence(REDUCED, "FIXED, if that is no more than the PROFIT of BEST");
        KnapsackCore same = example();
        same.room(9);
        due("REDUCED", () -> same.reduced(3), 22);
        due("the same: FIXED", () -> same.item(3, 4), 1);
        due("all are FIXED", () -> same.count(14), 4);
        KnapsackCore more = sack(5, 4, 12, 3, 3);
        due("REDUCED", () -> more.reduced(1), 13);
        due("1 more: not FIXED", () -> more.item(1, 4), 0);
        KnapsackCore x = early();
        due("FIXED at first", () -> x.count(14), 0);
        x.solve();
        due("with another BEST", () -> x.count(12), 49);
        due("reduced(2)", () -> x.reduced(2), 70);
    }

    private static void greedyAndSwap() {
        sentence("Terms 2, GREEDY", "each ITEM, place by place, is taken that fits with those that are taken");
        KnapsackCore x = example();
        long[][] greedy = {{0, 0, 0}, {3, 6, 4}, {4, 12, 1}, {6, 12, 1}, {7, 18, 5}, {8, 18, 5}, {9, 22, 3},
            {11, 22, 3}, {12, 28, 7}, {15, 28, 7}, {17, 28, 7}, {18, 37, 15}};
        for (long[] row : greedy) {
            x.room((int) row[0]);
            due("greedy(0), a ROOM of " + row[0], () -> x.greedy(0), row[1]);
            due("greedy(2), a ROOM of " + row[0], () -> x.greedy(2), row[2]);
        }
        due("no ITEMS", () -> new KnapsackCore().greedy(2), 0);

        sentence("Terms 2, A SWAP", "so that it FITS");
        due("just ROOM", () -> sack(8, 5, 10, 8, 13).swap(0), 3);
        due("one over", () -> sack(7, 5, 10, 8, 13).swap(0), 0);

        sentence("Terms 2, A SWAP", "and has more PROFIT");
        due("1 more", () -> sack(8, 5, 10, 8, 11).swap(0), 1);
        due("like PROFIT", () -> sack(8, 5, 10, 8, 10).swap(0), 0);
        due("like PROFIT, the one that goes", () -> sack(8, 5, 10, 8, 10).swap(1), -1);
        due("like PROFIT, the one that comes", () -> sack(8, 5, 10, 8, 10).swap(2), -1);

        sentence("Terms 2, A SWAP", "an ITEM that BEST has goes, one that it has not comes");
        due("BEST has none", () -> sack(3, 4, 40).swap(0), 0);
        due("BEST has all", () -> sack(9, 4, 40, 5, 1).swap(0), 0);

        sentence("Terms 2, A SWAP", "the one with most more");
        KnapsackCore most = sack(20, 9, 90, 8, 70, 10, 85, 11, 93, 50, 1);
        // BEST has the first two and 3 of ROOM are left.
        due("how much more", () -> most.swap(0), 23);
        due("the one that goes", () -> most.swap(1), 1);
        due("the one that comes", () -> most.swap(2), 3);

        sentence("Terms 2, A SWAP", "of several the first by the place of the one that goes, then of the one ..");
        KnapsackCore goes = sack(10, 4, 8, 4, 8, 6, 11);
        due("the first that goes", () -> goes.swap(1), 0);
        KnapsackCore comes = sack(8, 8, 13, 7, 13, 5, 10);
        due("the first that comes, by place", () -> comes.swap(2), 1);
        KnapsackCore places = sack(11, 5, 8, 4, 8, 6, 9);
        due("places count, not numbers", () -> places.swap(1), 1);
    }

    private static void front() {
        String terms = "Terms 2, The FRONT";
        sentence(terms, "all SETS of any ITEMS, of any WEIGHT");
        KnapsackCore heavy = sack(0, 999999999, 5, 999999999, 5, 147483649, 5);
        due("how many", () -> heavy.front(-1, 0), 4);
        due("the greatest WEIGHT", () -> heavy.front(3, 0), HIGH);
        due("the empty SET", () -> heavy.front(0, 0) + heavy.front(0, 1) + heavy.front(0, 2), 0);
        due("no ITEMS: the empty SET", () -> new KnapsackCore().front(-1, 0), 1);

        sentence(terms, "if there are more than MOST behind any ITEM, it is STUCK");
        KnapsackCore just = powers(144, 400);
        due("400 SETS, MOST is 400", () -> just.front(-1, 0), 400);
        KnapsackCore over = powers(145, 400);
        due("401 SETS, MOST is 400", () -> over.front(-1, 0), -2);
        KnapsackCore thousand = powers(488, 1000);
        due("1000 SETS, MOST is 1000", () -> thousand.front(-1, 0), 1000);
        due("the last", () -> thousand.front(999, 0), 999);
        due("1001 SETS, MOST is 1000", () -> powers(489, 1000).front(-1, 0), -2);
        // Behind each item there are 2, 4, 7, 10, 9.
        KnapsackCore shrinks = sack(0, 1, 23, 3, 24, 8, 29, 11, 28, 3, 6);
        shrinks.most(10);
        due("9 in the end, 10 before", () -> shrinks.front(-1, 0), 9);
        shrinks.most(9);
        due("9 in the end, but STUCK before", () -> shrinks.front(-1, 0), -2);
        KnapsackCore two = sack(0, 1, 1);
        two.most(2);
        due("2 SETS, MOST is 2", () -> two.front(-1, 0), 2);
        two.add(1, 1);
        due("3 SETS, MOST is 2", () -> two.front(-1, 0), -2);

        sentence(terms, "A CORNER: of each two others, it lies above the straight line between them");
        cornersAre("on the line", sack(0, 1, 1, 1, 1, 1, 1), 1, 0, 0, 1);
        cornersAre("below and above by less than doubles tell", sack(0, 999999998, 999999997, 999999999, 999999998),
                1, 0, 1, 1);
        cornersAre("each is a CORNER", sack(0, 6, 9, 7, 2, 7, 7), 1, 1, 1, 1);
        cornersAre("below the next but one", sack(0, 4, 5, 2, 2, 4, 11), 1, 0, 1, 0, 1, 1);
        cornersAre("below one far behind", sack(0, 6, 12, 1, 1, 3, 10), 1, 0, 1, 0, 0, 0, 1, 1);
        cornersAre("on the line of its neighbours", sack(0, 9, 11, 9, 11, 9, 12), 1, 1, 0, 1);
        cornersAre("below one far ahead", sack(0, 8, 8, 9, 11, 3, 4), 1, 1, 0, 0, 0, 1, 0, 1);
        due("no ITEMS: there are no two others", () -> new KnapsackCore().front(0, 3), 1);
        due("one ITEM", () -> sack(0, 5, 5).front(1, 3), 1);
    }

    private static void cornersAre(String what, KnapsackCore x, long... want) {
        due(what + ", how many", () -> x.front(-1, 0), want.length);
        for (int k = 0; k < want.length; k++) {
            int one = k;
            due(what + ", front(" + one + ", 3)", () -> x.front(one, 3), want[one]);
        }
    }

    /** Weights and profits 1, 2, 4, .. and a last one with which all sums from 0 on to one less than most are there. */
    private static KnapsackCore powers(int last, int most) {
        KnapsackCore x = sack(0);
        x.most(most);
        for (int k = 1; k <= last; k *= 2) {
            x.add(k, k);
        }
        x.add(last, last);
        return x;
    }

    public static void main(String[] args) {
        order();
        breaking();
        sets();
        domination();
        atFirst();
        direction();
        stepping();
        bounds();
        anew();
        reduced();
        greedyAndSwap();
        front();
        end("the core holds at all its edges");
    }
}
