import java.util.List;

/** Each sentence on THE TEXT that names an edge: type(), read(), fault() and what the terms say of them. */
public final class TextEdgeTest extends Checks {
    private static final String TERMS = "Terms 1, THE TEXT";
    private static final String FAULTS = "Terms 1, FAULTS";

    private static void fault(String text, int kind, int place) {
        KnapsackCore x = typed(new KnapsackCore(), text);
        due("read() of '" + text + "'", x::read, -1);
        due("fault(false) of '" + text + "'", () -> x.fault(false), kind);
        due("fault(true) of '" + text + "'", () -> x.fault(true), place);
    }

    private static KnapsackCore reads(String text, int items) {
        KnapsackCore x = typed(new KnapsackCore(), text);
        due("read() of '" + text + "'", x::read, items);
        due("fault(false) of '" + text + "'", () -> x.fault(false), 0);
        due("fault(true) of '" + text + "'", () -> x.fault(true), -1);
        return x;
    }

    private static void length() {
        sentence("Promise 2", "those of eight, the highest first");
        KnapsackCore order = new KnapsackCore();
        due("type of 'room 5;0'", () -> order.type(0x726f6f6d20353b30L), 8);
        order.read();
        due("the 0 is the last byte", () -> order.fault(true), 7);

        sentence("Promise 2", "up to the first one that is 0");
        KnapsackCore x = new KnapsackCore();
        due("all are 0", () -> x.type(0L), 0);
        due("the highest is 0", () -> x.type(0x00FFFFFFFFFFFFFFL), 0);
        due("the second is 0", () -> x.type(0x61006161_61616161L), 1);
        due("the lowest is 0", () -> x.type(0x61616161_61616100L), 8);
        due("none is 0", () -> x.type(0x61616161_61616161L), 16);
        due("bytes of 128", () -> x.type(0x80808080_80808080L), 24);
        due("Long.MIN_VALUE has one byte", () -> x.type(Long.MIN_VALUE), 25);
        due("-1 has eight bytes", () -> x.type(-1L), 33);
        due("1 has none: the highest is 0", () -> x.type(1L), 33);

        sentence("Promise 2", "NONE, and nothing comes, if it would have more than 600");
        KnapsackCore full = typed(new KnapsackCore(), " ".repeat(593));
        due("eight where seven have room", () -> full.type(eight("        ")), -1);
        due("nothing came, not even seven", () -> full.count(16), 593);
        due("seven where seven have room", () -> full.type(eight("      x")), 600);
        due("one where none has room", () -> full.type(eight("x")), -1);
        due("none where none has room", () -> full.type(0L), 600);
        due("count(16), full", () -> full.count(16), 600);
        due("read(), full", full::read, -1);
        due("the last byte was read", () -> full.fault(true), 599);
        due("behind read() there is room again", () -> full.type(eight("12345678")), 8);

        sentence("Promise 2", "how many THE TEXT has");
        KnapsackCore behind = typed(new KnapsackCore(), "room 7");
        due("bytes come behind those there are", () -> behind.type(eight("7;")), 8);
        behind.read();
        due("a row of digits over two calls", () -> behind.count(1), 77);
    }

    private static void tokens() {
        sentence(TERMS, "TOKENS, each as long as it goes");
        fault("rooms 5;", 1, 0);
        fault("roommost 5;", 1, 0);
        fault("ro om 5;", 1, 0);
        fault("room 5;item", 1, 11);
        due("room 12 is not 1, then 2", () -> reads("room 12;", 0).count(1), 12);
        fault("item 12;", 1, 7);

        sentence(TERMS, "with blanks (32, 10) between where one likes");
        due("no blanks", () -> reads("room5;most7;item1 2;", 1).count(1), 5);
        due("blanks all over", () -> reads(" \n room \n 5 \n ; \n item\n1\n2\n;\n \n", 1).count(1), 5);
        fault("item12;", 1, 6);
        for (int no : new int[] {1, 9, 11, 12, 13, 31, 33, 127, 128, 138, 160, 255}) {
            fault("room" + (char) no + "5;", 1, 4);
            fault((char) no + "room 5;", 1, 0);
            fault("room 5;" + (char) no, 1, 7);
        }

        sentence(TERMS, "words, letters a to z");
        fault("Room 5;", 1, 0);
        fault("rOom 5;", 1, 0);
        fault((char) 96 + "room 5;", 1, 0);
        fault((char) 123 + "room 5;", 1, 0);
        fault("room" + (char) 96 + "5;", 1, 4);
        fault("room" + (char) 123 + "5;", 1, 4);
        fault("xoom 5;", 1, 0);
        fault("xost 5;", 1, 0);
        fault("xtem 5 5;", 1, 0);
        fault("roox 5;", 1, 0);
        fault("mosx 5;", 1, 0);
        fault("itex 5 5;", 1, 0);
        fault("rooma5;", 1, 0);
        fault("roomz5;", 1, 0);
        fault("a", 1, 0);
        fault("z", 1, 0);

        sentence(TERMS, "NUMBERS, 1 to 10 digits");
        due("one digit", () -> reads("room 9;", 0).count(1), 9);
        due("the digit 0", () -> reads("room 0;", 0).count(1), 0);
        due("ten digits", () -> reads("room 2000000000;", 0).count(1), 2000000000);
        due("ten digits, nine of them 0", () -> reads("room 0000000009;", 0).count(1), 9);
        due("all digits", () -> reads("room 1234567890;", 0).count(1), 1234567890);
        fault("room 5/;", 1, 6);
        fault("room 5:;", 1, 6);
        fault("room /5;", 1, 5);
        fault("room :5;", 1, 5);
        fault("room -5;", 1, 5);
        fault("room +5;", 1, 5);
        fault("room ;", 1, 5);

        sentence(TERMS, "(a longer row of digits is none)");
        fault("room 00000000009;", 1, 5);
        fault("item 1 12345678901;", 1, 7);
        fault("12345678901", 1, 0);
        fault("room 5 12345678901", 1, 7);
        fault("room " + "1".repeat(595), 1, 5);
        due("ten and a blank and one are two", () -> typed(new KnapsackCore(), "item 0000000001 1;").read(), 1);
    }

    private static void texts() {
        sentence(TERMS, "any number of room N ; most N ; item N N ;");
        reads("", 0);
        reads(" ", 0);
        reads("\n".repeat(600), 0);
        reads("room 1;", 0);
        reads("item 1 1;room 1;item 1 1;most 2;item 1 1;", 3);
        reads("item1 1;".repeat(60) + "room 7;".repeat(17), 60);
        due("100 rooms", () -> reads("room1;".repeat(99) + "room2;", 0).count(1), 2);

        sentence(TERMS, "room, most: later ones strike");
        KnapsackCore x = reads("room 5;most 9;item 1 1;room 6;most 8;", 1);
        due("room", () -> x.count(1), 6);
        due("most", () -> x.count(2), 8);
        KnapsackCore y = reads("room 6;room 100;most 8;most 400;", 0);
        due("room, as at first", () -> y.count(1), 100);
        due("most, as at first", () -> y.count(2), 400);
        fault("room 2000000001;room 5;", 2, 5);
        fault("most 1;most 5;", 2, 5);
    }

    private static void tokensThatCanNotStand() {
        sentence(FAULTS, "1 the first token that can not stand there");
        fault("5;", 1, 0);
        fault(";", 1, 0);
        fault(" \nroo 5;", 1, 2);
        fault("room;", 1, 4);
        fault("room room 5;", 1, 5);
        fault("most;", 1, 4);
        fault("most item 5;", 1, 5);
        fault("item;", 1, 4);
        fault("item most 1;", 1, 5);
        fault("item 1;", 1, 6);
        fault("item 1 item;", 1, 7);
        fault("room 5 5;", 1, 7);
        fault("room 5 most;", 1, 7);
        fault("most 5 5;", 1, 7);
        fault("most 5 room 5;", 1, 7);
        fault("item 1 1 1;", 1, 9);
        fault("item 1 1 item 1 1;", 1, 9);
        fault("room 5;;", 1, 7);
        fault("room 5;5", 1, 7);
        fault("room 5;x;5", 1, 7);

        sentence(FAULTS, "or a byte that begins none");
        fault("!", 1, 0);
        fault("room!", 1, 4);
        fault("room 5!", 1, 6);
        fault("item!", 1, 4);
        fault("item 1!", 1, 6);
        fault("item 1 1!", 1, 8);
        fault("room 5;!", 1, 7);
        fault("room 5" + (char) 187, 1, 6);
        fault("room 5<", 1, 6);

        sentence(FAULTS, "or the end, if more must come; the end's: how many bytes there are");
        fault("room", 1, 4);
        fault("room \n ", 1, 7);
        fault("room 5", 1, 6);
        fault("room 5 ", 1, 7);
        fault("most", 1, 4);
        fault("most 5", 1, 6);
        fault("item", 1, 4);
        fault("item 1", 1, 6);
        fault("item 1 1", 1, 8);
        fault("item 1 1\n", 1, 9);
        fault("room 5;item", 1, 11);
        fault("room 5" + " ".repeat(594), 1, 600);
    }

    private static void numbersThatCanNotBe() {
        sentence(FAULTS, "2 a NUMBER that can not be (as above): ROOM, 0 to 2000000000");
        reads("room 0;room 2000000000;", 0);
        fault("room 2000000001;", 2, 5);
        fault("room 2147483648;", 2, 5);
        fault("room 4294967296;", 2, 5);
        fault("room 9999999999;", 2, 5);

        sentence(FAULTS, "2 a NUMBER that can not be (as above): MOST, 2 to 1000");
        reads("most 2;most 1000;", 0);
        fault("most 0;", 2, 5);
        fault("most 1;", 2, 5);
        fault("most 1001;", 2, 5);
        fault("most 4294967298;", 2, 5);

        sentence(FAULTS, "2 a NUMBER that can not be (as above): a WEIGHT and a PROFIT, 1 to 999999999 each");
        reads("item 1 1;item 999999999 999999999;", 2);
        fault("item 0 1;", 2, 5);
        fault("item 1000000000 1;", 2, 5);
        fault("item 4294967297 1;", 2, 5);
        fault("item 1 0;", 2, 7);
        fault("item 1 1000000000;", 2, 7);
        fault("item 1 4294967297;", 2, 7);
        fault("item 1 9999999999;", 2, 7);

        sentence(FAULTS, "3 the word item of a 61st");
        String sixty = "item1 1;".repeat(60);
        reads(sixty, 60);
        fault(sixty + "item1 1;", 3, 480);
        fault(sixty + " \nitem1 1;", 3, 482);
        fault(sixty + "room 7;item1 1;", 3, 487);
        fault(sixty + "item1 1;item1 1;", 3, 480);
    }

    private static void sumsThatAreNoInts() {
        String weights = "item 999999999 1;item 999999999 1;";
        String profits = "item 1 999999999;item 1 999999999;";
        sentence(FAULTS, "4 a WEIGHT with which all told till then would be no int");
        due("the greatest int", () -> reads(weights + "item 147483649 1;", 3).count(18), HIGH);
        fault(weights + "item 147483650 1;", 4, 39);
        fault(weights + "item 999999999 1;", 4, 39);
        fault(weights + "item 147483649 1;item 1 1;", 4, 56);
        fault(weights + "item 147483650 147483650;", 4, 39);

        sentence(FAULTS, "4 a PROFIT with which all told till then would be no int");
        due("the greatest int", () -> reads(profits + "item 1 147483649;", 3).count(19), HIGH);
        fault(profits + "item 1 147483650;", 4, 41);
        fault(profits + "item 1 999999999;", 4, 41);
        fault(profits + "item 1 147483649;item 1 1;", 4, 58);
        due("weights and profits do not count together",
                () -> reads("item 999999999 999999999;item 999999999 999999999;item 1 1;", 3).count(18), 1999999999);

        sentence(FAULTS, "4 (told till then): what is told behind it does not count, nor what an earlier text told");
        KnapsackCore x = typed(new KnapsackCore(), weights);
        x.read();
        typed(x, weights);
        due("the same again", x::read, 2);
        fault("item 147483650 1;" + weights, 4, 39);
    }

    private static void whichFault() {
        String weights = "item 999999999 1;item 999999999 1;";
        String sixty = "item1 1;".repeat(60);
        sentence(FAULTS, "If there is none [of 1]: a 1 behind all others strikes them");
        fault("room 2000000001;x", 1, 16);
        fault("room 2000000001", 1, 15);
        fault("most 1;room 12345678901;", 1, 12);
        fault(sixty + "item1 1", 1, 487);
        fault(sixty + "item;", 1, 484);
        fault(weights + "item 147483650 1", 1, 50);
        fault("item 0 1", 1, 8);

        sentence(FAULTS, "the first by place");
        fault("room 2000000001;most 1;", 2, 5);
        fault("item 0 0;", 2, 5);
        fault(weights + "item 147483650 0;", 4, 39);
        fault(weights + "item 0 1;item 147483650 1;", 2, 39);
        fault("item 1 999999999;item 999999999 999999999;item 1147483647 147483650;", 2, 47);
        fault(sixty + "item0 0;", 3, 480);
        fault(sixty + "most 1;item1 1;", 2, 485);
        fault("most 1;" + sixty + "item1 1;", 2, 5);
        fault(weights + "item147483650 1;" + "item1 1;".repeat(58), 4, 38);

        sentence(FAULTS, "of one place the least: 2, though the sum would be no int, too");
        fault(weights + "item 1000000000 1;", 2, 39);
        fault("item 1 999999999;item 1 999999999;item 1 1000000000;", 2, 41);
        fault(weights + "item 9999999999 1;", 2, 39);
    }

    /** Something of all: items, a step, shelves, an image, a text, a fault. */
    private static KnapsackCore busy() {
        KnapsackCore x = typed(example(), "item 0 1;");
        x.read();
        x.step();
        x.shelve(0, 1, false, 2);
        x.shelve(1, 2, true, 1);
        x.image(1);
        return x;
    }

    private static void reading() {
        sentence("Promise 3", "THE TEXT is read (it is empty then)");
        KnapsackCore x = typed(new KnapsackCore(), "item 1 2;");
        due("read()", x::read, 1);
        due("count(16)", () -> x.count(16), 0);
        due("read() once more: an empty text", x::read, 0);
        KnapsackCore y = typed(new KnapsackCore(), "!");
        due("read(), a FAULT", y::read, -1);
        due("count(16)", () -> y.count(16), 0);
        due("read() once more: an empty text", y::read, 0);

        sentence("Promise 3", "all is as at first, but as told (SHELVES stay)");
        KnapsackCore told = busy();
        due("read() of nothing", told::read, 0);
        same("all but SHELVES", without("shelved", seen(told)), without("shelved", seen(new KnapsackCore())));
        due("shelved(0, 1, false)", () -> told.shelved(0, 1, false), 6);
        due("shelved(0, 1, true)", () -> told.shelved(0, 1, true), 9);
        due("shelved(1, 2, false)", () -> told.shelved(1, 2, false), 12);
        due("shelved(1, 2, true)", () -> told.shelved(1, 2, true), 28);
        due("ROOM and MOST that are not told are as at first", () -> {
            KnapsackCore z = typed(busy(), "item 1 1;");
            z.most(7);
            z.read();
            return z.count(1) * 1000 + z.count(2);
        }, 100400);

        due("ROOM and MOST of an earlier text are as at first", () -> {
            KnapsackCore z = typed(new KnapsackCore(), "room 5;most 7;item 1 1;");
            z.read();
            z.read();
            return z.count(1) * 1000 + z.count(2);
        }, 100400);
        KnapsackCore items = typed(busy(), "room 10;item 5 10;item 4 12;item 6 9;item 3 6;");
        items.read();
        due("STEPS", () -> items.count(9), 0);
        due("SETS", () -> items.count(10), 1);
        due("the BREAK SET", () -> items.set(0, 1), 22);

        sentence("Promise 3", "how many ITEMS");
        reads("room 5;", 0);
        reads("item 1 1;", 1);
        reads("item1 1;".repeat(60), 60);

        sentence("Promise 3", "NONE: a FAULT (all but THE TEXT, the FAULT stays)");
        KnapsackCore bad = busy();
        typed(bad, "room 50;item 7 7;most 1;");
        due("read()", bad::read, -1);
        due("fault(false)", () -> bad.fault(false), 2);
        due("fault(true)", () -> bad.fault(true), 22);
        due("acts stay", () -> bad.count(15), 6);
        due("count(16)", () -> bad.count(16), 0);
        same("all else", without("fault", seenToTheGround(bad)), without("fault", seenToTheGround(busy())));

        sentence("Terms 3", "read() without a FAULT leaves none [that can be UNDONE]");
        KnapsackCore acts = example();
        acts.read();
        due("count(15)", () -> acts.count(15), 0);
        due("undo()", acts::undo, -1);
        acts.add(1, 1);
        due("undo() of what comes behind it", acts::undo, 0);
        due("count(0)", () -> acts.count(0), 0);
    }

    private static List<String> without(String call, List<String> rows) {
        rows.removeIf(row -> row.startsWith(call));
        return rows;
    }

    private static void telling() {
        sentence("Promise 4", "its FAULT (0 without, and at first), or (place) its place (NONE without)");
        KnapsackCore x = new KnapsackCore();
        due("fault(false) at first", () -> x.fault(false), 0);
        due("fault(true) at first", () -> x.fault(true), -1);
        typed(x, "room");
        due("a text that is not read has none", () -> x.fault(false), 0);
        x.read();
        due("fault(false)", () -> x.fault(false), 1);
        due("fault(true)", () -> x.fault(true), 4);
        KnapsackCore y = typed(new KnapsackCore(), "!");
        y.read();
        due("a FAULT at place 0", () -> y.fault(true), 0);

        sentence("Promise 4", "Of the latest read()");
        typed(x, "most 1;");
        due("till the next read() it stays", () -> x.fault(true), 4);
        x.read();
        due("fault(false) of a later one", () -> x.fault(false), 2);
        due("fault(true) of a later one", () -> x.fault(true), 5);
        x.add(1, 1);
        x.undo();
        due("acts and undo() leave it", () -> x.fault(false), 2);
        x.read();
        due("fault(false) of one without", () -> x.fault(false), 0);
        due("fault(true) of one without", () -> x.fault(true), -1);
        typed(x, "room 2000000001;");
        x.read();
        typed(x, "room");
        x.read();
        due("bytes of an earlier text are none", () -> x.fault(true), 4);
    }

    public static void main(String[] args) {
        length();
        tokens();
        texts();
        tokensThatCanNotStand();
        numbersThatCanNotBe();
        sumsThatAreNoInts();
        whichFault();
        reading();
        telling();
        end("the text holds at all its edges");
    }
}
