/** For each promise of the document: ordinary inputs, the edges that it names, wrong inputs. */
final class PromisesTest {
    private static final int UNKNOWN = -1, OUTSIDE = -2, STATE = -3, FULL = -4, NO = -5, NONE = -6;
    private static final int SIZE = 0, ALIGN = 1, OFFSET = 2, WIDTH = 3, FIRST = 4, COUNT = 5, PARTS = 6;
    private static final int MIN = Integer.MIN_VALUE, MAX = Integer.MAX_VALUE;
    private static final Due due = new Due("PromisesTest");

    public static void main(String[] args) {
        aNewObject();
        say();
        wipe();
        fault();
        faultOfLetters();
        way();
        layoutOfPlainTerms();
        layoutOfRecords();
        layoutOfVariants();
        layoutOfLetters();
        layoutRefused();
        over();
        lettersGoneThrough();
        term();
        variant();
        pattern();
        least();
        idle();
        give();
        drop();
        given();
        write();
        writeVariants();
        writeRefused();
        read();
        readRefused();
        which();
        poke();
        peek();
        image();
        restore();
        told();
        due.end();
    }

    // ---- helpers

    private static void memoryIs(String what, Watched x, int place, int... bytes) {
        for (int i = 0; i < bytes.length; i++) due.is(what + ": peek(" + (place + i) + ")", x.peek(place + i), bytes[i]);
    }

    private static void listIs(String what, Watched x, long... numbers) {
        due.is(what + ": given(-1)", x.given(-1), numbers.length);
        for (int i = 0; i < numbers.length; i++) due.is(what + ": given(" + i + ")", x.given(i), numbers[i]);
    }

    private static void faultIs(String text, int want) {
        due.is("fault of " + text, Watched.shapes(text).fault(0), want);
    }

    /** SIZE, ALIGN, and the GAP (nothing more: none) of a text by a WAY. */
    private static void layoutIs(int way, String text, int size, int align, int... gap) {
        Watched x = Watched.shapes(text);
        x.way(way);
        String what = "layout by " + way + " of " + text + ", ";
        due.is(what + "SIZE", x.layout(0, -1, SIZE), size);
        due.is(what + "ALIGN", x.layout(0, -1, ALIGN), align);
        for (int i = 0; i < 4; i++) due.is(what + (OFFSET + i), x.layout(0, -1, OFFSET + i), gap.length == 0 ? NONE : gap[i]);
    }

    private static void offsetsAre(int way, String text, int... offsets) {
        Watched x = Watched.shapes(text);
        x.way(way);
        for (int i = 0; i < offsets.length; i++) due.is("offset by " + way + " of " + i + " in " + text, x.term(0, -1, i, 0), offsets[i]);
        due.is("behind the last of " + text, x.term(0, -1, offsets.length, 0), NONE);
    }

    // ---- 1 to 5

    private static void aNewObject() {
        Watched other = Watched.shapes("(x1)");
        other.poke(3, 7);
        other.give(5);
        other.way(1);
        other.image(0);
        Watched x = new Watched();
        due.is("told(0)", x.told(0), 0);
        due.is("told(1)", x.told(1), 0);
        for (int s = 0; s < 8; s++) {
            due.is("told(10..)", x.told(10 + s), 0);
            due.is("told(20..)", x.told(20 + s), 0);
            due.is("fault", x.fault(s), 0);
        }
        for (int p = 0; p < 96; p++) due.is("peek(" + p + ")", x.peek(p), 0);
        due.is("restore(0)", x.restore(0), STATE);
        due.is("restore(1)", x.restore(1), STATE);
        due.is("given(-1)", x.given(-1), 0);
        due.is("UNKNOWN", RecordNiches.UNKNOWN, -1);
        due.is("OUTSIDE", RecordNiches.OUTSIDE, -2);
        due.is("STATE", RecordNiches.STATE, -3);
        due.is("FULL", RecordNiches.FULL, -4);
        due.is("NO", RecordNiches.NO, -5);
        due.is("NONE", RecordNiches.NONE, -6);
    }

    private static void say() {
        Watched x = new Watched();
        due.is("say 33", x.say(0, 33), 1);
        due.is("say 126", x.say(0, 126), 2);
        due.is("say of another SHAPE", x.say(7, 'b'), 1);
        due.is("say 32", x.say(0, 32), OUTSIDE);
        due.is("say 127", x.say(0, 127), OUTSIDE);
        due.is("say MIN", x.say(0, MIN), OUTSIDE);
        due.is("say MAX", x.say(0, MAX), OUTSIDE);
        due.is("say of -1", x.say(-1, 'b'), UNKNOWN);
        due.is("say of 8", x.say(8, 'b'), UNKNOWN);
        due.is("UNKNOWN before OUTSIDE", x.say(MAX, 0), UNKNOWN);
        for (int n = 3; n <= 40; n++) due.is("say", x.say(0, '1'), n);
        due.is("the 41st", x.say(0, '1'), FULL);
        due.is("OUTSIDE before FULL", x.say(0, 32), OUTSIDE);
        due.is("nothing changed", x.told(10), 40);
        due.is("the last sign", x.told(139), '1');
    }

    private static void wipe() {
        Watched x = Watched.shapes("(12)", "b");
        due.is("wipe", x.wipe(0), 4);
        due.is("gone", x.told(10), 0);
        due.is("no sign there", x.told(100), OUTSIDE);
        due.is("the other stays", x.told(11), 1);
        due.is("wipe again", x.wipe(0), 0);
        due.is("wipe of -1", x.wipe(-1), UNKNOWN);
        due.is("wipe of 8", x.wipe(8), UNKNOWN);
        due.is("said anew", x.say(0, 'x'), 1);
        due.is("OPEN", x.told(20), 1);
        due.is("wipe x", x.wipe(0), 1);
        due.is("OPEN no more", x.told(20), 0);
    }

    private static void fault() {
        for (String text : new String[] {"0", "1", "2", "4", "b", "p", "x", "e2", "e9", "(1)", "[1]", "(111111)", "[0bxp4e5]",
            "((((((((((((((((((1))))))))))))))))))", "([1](0x)e2[e9])"}) {
            faultIs(text, NONE);
        }
        faultIs("", 0);
        faultIs("3", 0);
        faultIs("8", 0);
        faultIs("!", 0);
        faultIs("~", 0);
        faultIs(")", 0);
        faultIs("]", 0);
        faultIs("e", 1);
        faultIs("e1", 1);
        faultIs("e:", 1);
        faultIs("ee", 1);
        faultIs("(e)", 2);
        faultIs("11", 1);
        faultIs("e22", 2);
        faultIs("(1)1", 3);
        faultIs("(1))", 3);
        faultIs("()", 1);
        faultIs("[]", 1);
        faultIs("(", 1);
        faultIs("(1", 2);
        faultIs("(1]", 2);
        faultIs("[1)", 2);
        faultIs("([1)]", 3);
        faultIs("(111111", 7);
        faultIs("(1111111)", 7);
        faultIs("[111111(", 7);
        faultIs("(11111(1))", NONE);
        faultIs("(((1)(1)(1)(1)(1)(1)1", 20);
        faultIs("A", 0);
        faultIs("(1A", 2);
        faultIs("I", 0);
        faultIs("a", 0);
        faultIs("(".repeat(40), 40);
        Watched x = new Watched();
        due.is("fault(-1)", x.fault(-1), UNKNOWN);
        due.is("fault(8)", x.fault(8), UNKNOWN);
        due.is("fault(MIN)", x.fault(MIN), UNKNOWN);
    }

    private static void faultOfLetters() {
        Watched x = Watched.shapes("b", "[0x]", "A", "B", "B1", "BBA", "(A1B2BB4)", "(AAAAAAA)");
        due.is("a letter", x.fault(2), NONE);
        due.is("more must come behind one that is OPEN", x.fault(3), 1);
        due.is("a TERM behind it", x.fault(4), NONE);
        due.is("one behind another", x.fault(5), NONE);
        due.is("in a RECORD", x.fault(6), NONE);
        due.is("seven", x.fault(7), 7);
        x.tell(2, "A1");
        due.is("a TERM behind one that is not OPEN", x.fault(2), 1);
        x.tell(2, "C");
        due.is("its own letter", x.fault(2), 0);
        x.tell(2, "D");
        due.is("a greater letter", x.fault(2), 0);
        x.tell(2, "B)");
        due.is("no TERM behind it", x.fault(2), 1);
        x.tell(2, "(B)");
        due.is("no TERM behind it, in a RECORD", x.fault(2), 2);
        x.tell(2, "(11111B11)");
        due.is("one of six with its TERM", x.fault(2), 8);
        x.tell(2, "Be3");
        due.is("a CHOICE behind it", x.fault(2), NONE);
        x.tell(2, "BBB");
        due.is("more must come behind all", x.fault(2), 3);
        x.tell(2, "BBBx1");
        due.is("all end with the last", x.fault(2), 4);
        x.tell(1, "x(");
        due.is("OPEN by its text, with a FAULT of its own", x.fault(4), NONE);
        x.tell(1, "(");
        due.is("OPEN no more", x.fault(4), 1);
        x.tell(7, "GGGGGGG");
        due.is("a SHAPE that has a FAULT may stand", x.fault(7), 1);
    }

    private static void way() {
        Watched x = Watched.shapes("(1412)");
        due.is("at first", x.way(0), 0);
        due.is("WAY 1", x.way(1), 0);
        due.is("it was 1", x.way(1), 1);
        due.is("way(2)", x.way(2), OUTSIDE);
        due.is("way(-1)", x.way(-1), OUTSIDE);
        due.is("nothing changed", x.told(0), 1);
        due.is("packed", x.layout(0, -1, SIZE), 8);
        due.is("back", x.way(0), 1);
        due.is("as told", x.layout(0, -1, SIZE), 12);
    }

    // ---- 6

    private static void layoutOfPlainTerms() {
        layoutIs(0, "0", 0, 1);
        layoutIs(0, "1", 1, 1);
        layoutIs(0, "2", 2, 2);
        layoutIs(0, "4", 4, 4);
        layoutIs(0, "b", 1, 1, 0, 1, 2, 254);
        layoutIs(0, "e2", 1, 1, 0, 1, 2, 254);
        layoutIs(0, "e9", 1, 1, 0, 1, 9, 247);
        layoutIs(0, "p", 4, 4, 0, 4, 0, 1);
        for (String text : new String[] {"0", "4", "b", "e7", "p"}) {
            due.is("PARTS of " + text, Watched.shapes(text).layout(0, -1, PARTS), 1);
        }
    }

    private static void layoutOfRecords() {
        layoutIs(0, "(142)", 12, 4);
        layoutIs(1, "(142)", 8, 4);
        layoutIs(0, "(0)", 0, 1);
        layoutIs(0, "(21)", 4, 2);
        layoutIs(0, "(1(21)1)", 8, 2);
        layoutIs(1, "(1(21)1)", 6, 2);
        layoutIs(0, "(e3b)", 2, 1, 1, 1, 2, 254);
        layoutIs(0, "(bb)", 2, 1, 0, 1, 2, 254);
        layoutIs(0, "(1e3e3)", 3, 1, 1, 1, 3, 253);
        layoutIs(0, "(pe9)", 8, 4, 4, 1, 9, 247);
        layoutIs(0, "(1pp)", 12, 4, 4, 4, 0, 1);
        // packed, the first told is not the one of the least OFFSET
        layoutIs(1, "(b(2b))", 6, 2, 2, 1, 2, 254);
        layoutIs(0, "(b(2b))", 6, 2, 0, 1, 2, 254);
        layoutIs(0, "(1(1(1b)))", 4, 1, 3, 1, 2, 254);
        due.is("PARTS", Watched.shapes("(1(2b)[0e3])").layout(0, -1, PARTS), 8);
        offsetsAre(0, "(142e5)", 0, 4, 8, 10);
        offsetsAre(1, "(142e5)", 6, 0, 4, 7);
        offsetsAre(1, "(1212)", 4, 0, 5, 2);
        offsetsAre(0, "(010)", 0, 0, 1);
    }

    private static void layoutOfVariants() {
        // of one TERM
        layoutIs(0, "[b]", 1, 1, 0, 1, 2, 254);
        layoutIs(0, "[(2b)]", 4, 2, 2, 1, 2, 254);
        layoutIs(0, "[0]", 0, 1);
        layoutIs(0, "[4]", 4, 4);
        // hidden
        layoutIs(0, "[0p]", 4, 4);
        layoutIs(0, "[0b]", 1, 1, 0, 1, 3, 253);
        layoutIs(0, "[0e9000]", 1, 1, 0, 1, 13, 243);
        layoutIs(0, "[1(1b)1]", 2, 1, 1, 1, 4, 252);
        layoutIs(0, "[[0b]0]", 1, 1, 0, 1, 4, 252);
        layoutIs(0, "[2(b2)]", 4, 2, 0, 1, 3, 253);
        offsetsAre(0, "[2(b2)]", 2, 0);
        offsetsAre(0, "[(b1111)1111(11)]", 0, 1, 1, 1, 1, 1);
        offsetsAre(0, "[(11b1)(11)1(111)]", 1, 1, 1, 1);
        // greater ALIGN than the HOST's makes it greater
        layoutIs(0, "[((1111)b)4]", 8, 4, 4, 1, 3, 253);
        layoutIs(0, "[((11)11b)2]", 6, 2, 4, 1, 3, 253);
        // no room behind the GAP, since ALIGN moves it
        layoutIs(0, "[((11)b11)4]", 8, 4, 0, 1, 2, 254);
        layoutIs(0, "[(b111)2]", 4, 2, 0, 1, 3, 253);
        layoutIs(0, "[(b11)2]", 4, 2, 0, 1, 2, 254);
        layoutIs(0, "[(b112)4]", 8, 4, 0, 1, 2, 254);
        // tagged
        layoutIs(0, "[00]", 1, 1, 0, 1, 2, 254);
        layoutIs(0, "[p00]", 8, 4, 0, 1, 3, 253);
        layoutIs(0, "[4(2b)0]", 8, 4, 0, 1, 3, 253);
        layoutIs(0, "[bb]", 2, 1, 0, 1, 2, 254);
        layoutIs(0, "[1b]", 2, 1, 0, 1, 2, 254);
        layoutIs(0, "[124]", 8, 4, 0, 1, 3, 253);
        layoutIs(0, "[12]", 4, 2, 0, 1, 2, 254);
        offsetsAre(0, "[0124b]", 1, 1, 2, 4, 1);
        // what is left of a tag is a GAP for the VARIANT around
        layoutIs(0, "[0[12]]", 4, 2, 0, 1, 3, 253);
        // a PLACE's one pattern is gone, so that the next one around takes a tag
        layoutIs(0, "[0[0p]]", 8, 4, 0, 1, 2, 254);
        // the GAP of the first of as great SIZE
        layoutIs(0, "[(1b)(1e3)0]", 3, 1, 0, 1, 3, 253);
        layoutIs(0, "[(1b)1]", 2, 1, 1, 1, 3, 253);
        layoutIs(0, "[(b1)(1b)]", 3, 1, 0, 1, 2, 254);
    }

    private static void layoutOfLetters() {
        Watched x = Watched.shapes("[0x]", "b", "AB", "AAx", "(xAx)", "(D2)", "D2");
        due.is("a letter with its TERM", x.layout(2, -1, FIRST), 3);
        due.is("PARTS, no letter's", x.layout(2, -1, PARTS), 3);
        due.is("PARTS of x", x.layout(0, 1, PARTS), 3);
        due.is("twice", x.layout(3, 1, FIRST), 4);
        due.is("PARTS twice", x.layout(3, 1, PARTS), 5);
        due.is("a TERM behind a letter counts for each x", x.layout(4, 1, PARTS), 1 + 1 + 3);
        due.is("u that has letters", x.layout(4, 2, PARTS), 1 + 3 + 5);
        due.is("u as great as itself", x.layout(0, 0, SIZE), UNKNOWN);
        x.tell(5, "E2");
        due.is("x in what is behind a letter is that of the text it is in", x.layout(5, -1, SIZE), 2 + 4);
        x.tell(7, "(x[0x][1x])");
        x.tell(6, "(HxHHx)");
        due.is("a greater letter", x.layout(6, 1, SIZE), NO);
        x.tell(6, "A(xAx)");
        due.is("what stands behind a letter has the x of its own text", x.layout(6, 1, PARTS), 1 + 1 + (1 + 1 + 3));
        due.is("u may be greater", x.layout(0, 5, SIZE), 6);
        due.is("u may be greater", x.layout(0, 5, OFFSET), 2);
    }

    private static void layoutRefused() {
        Watched x = Watched.shapes("x", "1", "A1", "(", "b");
        due.is("no such SHAPE", x.layout(-1, -1, 0), UNKNOWN);
        due.is("no such SHAPE", x.layout(8, -1, 0), UNKNOWN);
        due.is("no u for one that is OPEN", x.layout(0, -1, 0), UNKNOWN);
        due.is("u 8", x.layout(0, 8, 0), UNKNOWN);
        due.is("u MIN", x.layout(0, MIN, 0), UNKNOWN);
        due.is("u is OPEN", x.layout(0, 0, 0), UNKNOWN);
        due.is("u for one that is not OPEN", x.layout(1, 1, 0), UNKNOWN);
        due.is("u -2", x.layout(1, -2, 0), UNKNOWN);
        due.is("what -1", x.layout(1, -1, -1), OUTSIDE);
        due.is("what 7", x.layout(1, -1, 7), OUTSIDE);
        due.is("UNKNOWN before OUTSIDE", x.layout(8, -1, 7), UNKNOWN);
        due.is("OUTSIDE before NO", x.layout(3, -1, 7), OUTSIDE);
        due.is("a FAULT", x.layout(3, -1, 0), NO);
        due.is("a FAULT in u", x.layout(0, 3, 0), NO);
        due.is("an empty one", x.layout(5, -1, 0), NO);
        x.tell(1, "11");
        due.is("u of no use is not asked", x.layout(2, -1, 0), 1);
        x.tell(0, "(x");
        due.is("a FAULT in a letter's", x.layout(2, -1, 0), NO);
        x.tell(0, "1");
        x.tell(5, "C");
        x.tell(2, "B");
        due.is("a FAULT two letters on", x.layout(5, -1, 0), NO);
    }

    private static void over() {
        Watched x = Watched.shapes("(444444)", "(AA(4444))", "(B1)", "(B0)", "(AA(444))");
        due.is("SIZE 64", x.layout(1, -1, SIZE), 64);
        due.is("SIZE above 64", x.layout(2, -1, SIZE), STATE);
        due.is("all calls", x.layout(2, -1, PARTS), STATE);
        due.is("SIZE 64 in another", x.layout(3, -1, SIZE), 64);
        due.is("OUTSIDE before STATE", x.layout(2, -1, 7), OUTSIDE);
        due.is("term", x.term(2, -1, 0, 0), STATE);
        due.is("variant", x.variant(2, -1, 0), STATE);
        due.is("pattern", x.pattern(2, -1, 0), STATE);
        due.is("least", x.least(2, -1), STATE);
        due.is("idle", x.idle(2, -1), STATE);
        due.is("write", x.write(2, -1, 0), STATE);
        due.is("read", x.read(2, -1, 0), STATE);
        due.is("which", x.which(2, -1, 0), STATE);
        x.tell(5, "[B0]");
        due.is("too large in a VARIANT", x.layout(5, -1, SIZE), STATE);
        x.tell(5, "(AA(444)12)");
        due.is("64 as told", x.layout(5, -1, SIZE), 64);
        x.tell(5, "(AA(444)121)");
        due.is("too large as told", x.layout(5, -1, SIZE), STATE);
        x.way(1);
        due.is("not too large packed", x.layout(5, -1, SIZE), 64);
        Watched z = Watched.shapes("(111111)", "(AAAAA)", "(BB(1111))", "(BB(11111))");
        due.is("64 bytes", z.layout(2, -1, SIZE), 64);
        due.is("65 bytes", z.layout(3, -1, SIZE), STATE);

        Watched y = Watched.shapes("(00000)", "(AA)", "(BB0)", "(CCC0(0000)(00000))", "(D0)");
        due.is("13", y.layout(1, -1, PARTS), 13);
        due.is("28", y.layout(2, -1, PARTS), 28);
        due.is("97", y.layout(3, -1, PARTS), 1 + 84 + 1 + 5 + 6);
        y.tell(4, "(D00)");
        due.is("100", y.layout(4, -1, PARTS), 100);
        y.tell(4, "(D000)");
        due.is("101", y.layout(4, -1, PARTS), STATE);
    }

    private static void lettersGoneThrough() {
        Watched x = Watched.shapes("1", "(AAAAAA)", "x", "C".repeat(39) + "x");
        due.is("few", x.layout(1, -1, SIZE), 6);
        // D: 39 letters, each of which goes through an x of its own, and the last x: 79
        due.is("D", x.layout(3, 0, SIZE), 1);
        x.tell(4, "(DADADADADADA)");
        due.is("6 letters, 6 times 79, 6 letters A: 486", x.layout(4, -1, PARTS), 7);
        x.tell(5, "(EAAAAA)");
        due.is("1 and 486 and 5: 492", x.layout(5, -1, PARTS), 13);
        x.tell(5, "(EAAAA" + "(AAAAAA))");
        due.is("1 and 486 and 4 and 6: 497", x.layout(5, -1, PARTS), 19);
        x.tell(5, "(EAAAA" + "(AAAAACA))");
        due.is("1 and 486 and 4 and 5 and 3: 499", x.layout(5, -1, PARTS), 19);
        x.tell(6, "F");
        due.is("500", x.layout(6, -1, PARTS), 19);
        x.tell(7, "G");
        due.is("501", x.layout(7, -1, PARTS), STATE);
        x.tell(6, "x");
        x.tell(7, "(F)");
        due.is("499 and 1: 500", x.layout(7, -1, PARTS), 20);
        due.is("x and 499: 500", x.layout(6, 5, PARTS), 19);
        x.tell(7, "(Fx)");
        due.is("499 and 1 and x, and a letter more", x.layout(7, 0, PARTS), STATE);
        // without any PARTS more, letters upon letters
        Watched y = Watched.shapes("x", "A".repeat(39) + "x", "B".repeat(39) + "x", "C".repeat(39) + "x", "1");
        due.is("79 and x's", y.layout(1, 4, SIZE), 1);
        due.is("too many", y.layout(2, 4, SIZE), STATE);
        due.is("far too many", y.layout(3, 4, SIZE), STATE);
        // an A and its x are 2, a B is 80
        Watched z = Watched.shapes("x", "A".repeat(39) + "x", "B".repeat(6) + "A".repeat(9) + "x", "C0", "0", "CE");
        due.is("500 for one TERM", z.layout(3, -1, PARTS), 1);
        due.is("501 for one TERM", z.layout(5, -1, PARTS), STATE);
    }

    // ---- 7 to 11

    private static void term() {
        Watched x = Watched.shapes("(0(12)4bp[1])", "[e3(1b)0]", "A", "(xAA)", "(e41)", "b");
        int[] offsets = {0, 0, 4, 8, 12, 16};
        int[] sizes = {0, 4, 4, 1, 4, 1};
        int[] aligns = {1, 2, 4, 1, 4, 1};
        int[] kinds = {0, 5, 1, 2, 4, 6};
        for (int i = 0; i < 6; i++) {
            for (int s = 0; s <= 2; s += 2) {
                due.is("offset " + i, x.term(s, -1, i, 0), offsets[i]);
                due.is("size " + i, x.term(s, -1, i, 1), sizes[i]);
                due.is("align " + i, x.term(s, -1, i, 2), aligns[i]);
                due.is("kind " + i, x.term(s, -1, i, 3), kinds[i]);
            }
        }
        due.is("a CHOICE", x.term(1, -1, 0, 3), 3);
        due.is("it lies beside the GAP", x.term(1, -1, 0, 0), 0);
        due.is("the HOST", x.term(1, -1, 1, 1), 2);
        due.is("x", x.term(3, 5, 0, 3), 2);
        due.is("another x", x.term(3, 4, 0, 3), 5);
        due.is("a letter", x.term(3, 5, 1, 3), 5);
        due.is("its offset", x.term(3, 5, 1, 0), 4);
        due.is("no such TERM", x.term(0, -1, 6, 0), NONE);
        due.is("no such TERM", x.term(0, -1, -1, 0), NONE);
        due.is("no such TERM", x.term(0, -1, MIN, 0), NONE);
        due.is("no such TERM", x.term(1, -1, 3, 0), NONE);
        due.is("another KIND", x.term(5, -1, 0, 0), NONE);
        due.is("what -1", x.term(0, -1, 0, -1), OUTSIDE);
        due.is("what 4", x.term(0, -1, 0, 4), OUTSIDE);
        due.is("UNKNOWN before OUTSIDE", x.term(0, 5, 0, 4), UNKNOWN);
        due.is("no such SHAPE", x.term(9, -1, 0, 0), UNKNOWN);
        due.is("no u", x.term(3, -1, 0, 0), UNKNOWN);
        due.is("OUTSIDE before NO", x.term(7, -1, 0, 4), OUTSIDE);
        due.is("NO before NONE", x.term(7, -1, -1, 0), NO);
    }

    private static void variant() {
        Watched x = Watched.shapes("[b]", "[0b]", "[b0]", "[44]", "A", "(1b)", "[xb]", "[0[44]0]");
        due.is("of one", x.variant(0, -1, 0), 0);
        due.is("of one, the HOST", x.variant(0, -1, 1), NONE);
        due.is("HIDDEN", x.variant(1, -1, 0), 1);
        due.is("HOST 1", x.variant(1, -1, 1), 1);
        due.is("HOST 0", x.variant(2, -1, 1), 0);
        due.is("TAGGED", x.variant(3, -1, 0), 2);
        due.is("TAGGED, the HOST", x.variant(3, -1, 1), NONE);
        due.is("a letter", x.variant(4, -1, 0), 0);
        due.is("another KIND", x.variant(5, -1, 0), NONE);
        due.is("another KIND", x.variant(5, -1, 1), NONE);
        due.is("by u, TAGGED", x.variant(6, 3, 0), 1);
        due.is("by u, the HOST", x.variant(6, 3, 1), 0);
        due.is("in the tag of another", x.variant(7, -1, 0), 1);
        due.is("what -1", x.variant(1, -1, -1), OUTSIDE);
        due.is("what 2", x.variant(1, -1, 2), OUTSIDE);
        due.is("OUTSIDE before NONE", x.variant(5, -1, 2), OUTSIDE);
        due.is("UNKNOWN", x.variant(8, -1, 2), UNKNOWN);
        due.is("UNKNOWN, u", x.variant(1, 0, 0), UNKNOWN);
        x.tell(0, "[");
        due.is("NO", x.variant(4, -1, 0), NO);
        due.is("OUTSIDE before NO", x.variant(4, -1, 2), OUTSIDE);
    }

    private static void pattern() {
        Watched x = Watched.shapes("[1(1b)00]", "[0p]", "[444]", "[b]", "(bb)", "[0A0]", "[0x]");
        due.is("the first", x.pattern(0, -1, 0), 2);
        due.is("the HOST", x.pattern(0, -1, 1), NONE);
        due.is("the next", x.pattern(0, -1, 2), 3);
        due.is("the last", x.pattern(0, -1, 3), 4);
        due.is("no such TERM", x.pattern(0, -1, 4), NONE);
        due.is("no such TERM", x.pattern(0, -1, -1), NONE);
        due.is("no such TERM", x.pattern(0, -1, MAX), NONE);
        due.is("of a PLACE", x.pattern(1, -1, 0), 0);
        due.is("of a PLACE, the HOST", x.pattern(1, -1, 1), NONE);
        for (int i = 0; i < 3; i++) due.is("the byte in front", x.pattern(2, -1, i), i);
        due.is("no such byte in front", x.pattern(2, -1, 3), NONE);
        due.is("of one TERM", x.pattern(3, -1, 0), NONE);
        due.is("another KIND", x.pattern(4, -1, 0), NONE);
        due.is("around another", x.pattern(5, -1, 0), 5);
        due.is("around another", x.pattern(5, -1, 2), 6);
        due.is("by u", x.pattern(6, 0, 0), 5);
        due.is("UNKNOWN", x.pattern(-1, -1, 0), UNKNOWN);
        due.is("UNKNOWN, u", x.pattern(6, -1, 0), UNKNOWN);
        due.is("NO before NONE", x.pattern(7, -1, -1), NO);
    }

    private static void least() {
        Watched x = Watched.shapes("(1412)", "(1(121)1)", "b", "[(14)]", "A", "(1x1)", "(0)", "(12141)");
        due.is("packed", x.least(0, -1), 8);
        due.is("it lies in 12", x.layout(0, -1, SIZE), 12);
        due.is("those in it as they are", x.least(1, -1), 8);
        due.is("a TRUTH", x.least(2, -1), NONE);
        due.is("a VARIANT", x.least(3, -1), NONE);
        due.is("a letter", x.least(4, -1), 8);
        due.is("by u", x.least(5, 0), 16);
        due.is("nothing in it", x.least(6, -1), 0);
        due.is("up to what ALIGN divides", x.least(7, -1), 12);
        x.way(1);
        due.is("those in it by the WAY", x.least(1, -1), 6);
        due.is("it is that packed", x.layout(0, -1, SIZE), 8);
        due.is("UNKNOWN", x.least(8, -1), UNKNOWN);
        due.is("UNKNOWN, u", x.least(0, 0), UNKNOWN);
        x.tell(0, "(1");
        due.is("NO", x.least(4, -1), NO);
    }

    private static void idle() {
        Watched x = Watched.shapes("(142e5)", "[0p(p1)]", "[2(4b)01]", "0", "[4(2b)0]", "([04]1)", "[4]", "(1x)");
        due.is("between fields", x.idle(0, -1), 4);
        due.is("TAGGED", x.idle(1, -1), 6);
        due.is("HIDDEN", x.idle(2, -1), 3);
        due.is("NOTHING", x.idle(3, -1), 0);
        due.is("one TERM fills what another leaves", x.idle(4, -1), 1);
        due.is("behind the last", x.idle(5, -1), 6);
        due.is("none", x.idle(6, -1), 0);
        due.is("by u", x.idle(7, 0), 3 + 4);
        x.tell(6, "[(14b)(11)]");
        due.is("HIDDEN, what another fills of the HOST", x.idle(6, -1), 5);
        x.tell(6, "[(b4)(11)]");
        due.is("HIDDEN, behind the GAP", x.idle(6, -1), 1);
        x.way(1);
        due.is("packed", x.idle(0, -1), 0);
        due.is("UNKNOWN", x.idle(8, -1), UNKNOWN);
        due.is("UNKNOWN, u", x.idle(7, -1), UNKNOWN);
        x.tell(0, "");
        due.is("NO", x.idle(0, -1), NO);
    }

    // ---- 12 to 14

    private static void give() {
        Watched x = new Watched();
        due.is("give(0)", x.give(0), 1);
        due.is("the greatest", x.give(4294967295L), 2);
        due.is("kept whole", x.given(1), 4294967295L);
        due.is("above", x.give(4294967296L), OUTSIDE);
        due.is("below", x.give(-1), OUTSIDE);
        due.is("the least long", x.give(Long.MIN_VALUE), OUTSIDE);
        due.is("the greatest long", x.give(Long.MAX_VALUE), OUTSIDE);
        for (int n = 3; n <= 60; n++) due.is("give", x.give(n), n);
        due.is("the 61st", x.give(1), FULL);
        due.is("OUTSIDE before FULL", x.give(-1), OUTSIDE);
        due.is("nothing changed", x.given(59), 60);
        due.is("nothing changed", x.given(-1), 60);
    }

    private static void drop() {
        Watched x = new Watched();
        due.is("drop of none", x.drop(), 0);
        x.list(5, 6, 7);
        due.is("drop", x.drop(), 3);
        due.is("empty", x.given(-1), 0);
        due.is("none there", x.given(0), NONE);
        due.is("drop again", x.drop(), 0);
        due.is("from the first on", x.give(9), 1);
        due.is("it is the first", x.given(0), 9);
    }

    private static void given() {
        Watched x = new Watched();
        due.is("how many", x.given(-1), 0);
        x.list(5, 6);
        due.is("how many", x.given(-1), 2);
        due.is("the first", x.given(0), 5);
        due.is("the last", x.given(1), 6);
        due.is("behind it", x.given(2), NONE);
        due.is("-2", x.given(-2), NONE);
        due.is("60", x.given(60), NONE);
        due.is("MAX", x.given(MAX), NONE);
        due.is("MIN", x.given(MIN), NONE);
    }

    // ---- 15 to 17

    private static void write() {
        Watched x = Watched.shapes("(1b2e9p4)", "0", "(4x)", "2");
        x.fill(255);
        x.list(200, 1, 0x1234, 8, 0xFFFFFFFFL, 0x01020304);
        due.is("bytes", x.write(0, -1, 8), 16);
        memoryIs("a RECORD", x, 7, 255, 200, 1, 0x34, 0x12, 8, 0, 0, 0, 255, 255, 255, 255, 4, 3, 2, 1);
        memoryIs("behind it", x, 24, 255);
        listIs("the LIST stays", x, 200, 1, 0x1234, 8, 0xFFFFFFFFL, 0x01020304);
        x.drop();
        due.is("NOTHING", x.write(1, -1, 96), 0);
        due.is("NOTHING", x.write(1, -1, 5), 0);
        x.list(7, 0x0201);
        due.is("by u", x.write(2, 3, 88), 8);
        memoryIs("by u", x, 87, 255, 7, 0, 0, 0, 1, 2, 0, 0);
        x.way(1);
        x.fill(9);
        x.list(200, 1, 0x1234, 8, 1, 2);
        due.is("packed", x.write(0, -1, 0), 16);
        memoryIs("packed", x, 0, 1, 0, 0, 0, 2, 0, 0, 0, 0x34, 0x12, 200, 1, 8, 0, 0, 0, 9);
    }

    private static void writeVariants() {
        Watched x = Watched.shapes("[2(4b)01]", "[0p]", "[124]", "[[0b]0(0)]", "[4]", "[2(be32)0]");
        x.fill(255);
        x.list(0, 0x0102);
        due.is("another than the HOST", x.write(0, -1, 0), 8);
        memoryIs("another than the HOST", x, 0, 2, 1, 0, 0, 2, 0, 0, 0, 255);
        x.list(1, 0x01020304, 1);
        due.is("the HOST", x.write(0, -1, 0), 8);
        memoryIs("the HOST", x, 0, 4, 3, 2, 1, 1, 0, 0, 0, 255);
        x.list(3, 77);
        due.is("the last", x.write(0, -1, 0), 8);
        memoryIs("the last", x, 0, 77, 0, 0, 0, 4, 0, 0, 0, 255);
        x.list(0);
        due.is("no PLACE", x.write(1, -1, 4), 4);
        memoryIs("no PLACE", x, 4, 0, 0, 0, 0, 255);
        x.list(1, 1);
        due.is("a PLACE", x.write(1, -1, 4), 4);
        memoryIs("a PLACE", x, 4, 1, 0, 0, 0, 255);
        x.list(1, 0x0506);
        due.is("TAGGED", x.write(2, -1, 16), 8);
        memoryIs("TAGGED", x, 16, 1, 0, 6, 5, 0, 0, 0, 0, 255);
        x.list(0, 0, 0);
        due.is("too many", x.write(3, -1, 24), STATE);
        x.list(0, 0);
        due.is("one in another", x.write(3, -1, 24), 1);
        memoryIs("one in another", x, 24, 2, 255);
        x.list(0, 1, 1);
        x.write(3, -1, 24);
        memoryIs("the HOST of the HOST", x, 24, 1, 255);
        x.list(1);
        x.write(3, -1, 24);
        memoryIs("what is left", x, 24, 3, 255);
        x.list(2);
        x.write(3, -1, 24);
        memoryIs("what is left", x, 24, 4, 255);
        x.tell(6, "[(14b)0]");
        x.list(1);
        due.is("a PATTERN alone", x.write(6, -1, 48), 12);
        memoryIs("a PATTERN alone", x, 48, 0, 0, 0, 0, 0, 0, 0, 0, 2, 0, 0, 0, 255);
        x.list(5);
        due.is("of one TERM has its number too", x.write(4, -1, 28), STATE);
        x.list(0, 5);
        due.is("of one TERM", x.write(4, -1, 28), 4);
        memoryIs("of one TERM", x, 28, 5, 0, 0, 0, 255);
        x.list(0, 0x0708);
        due.is("behind the GAP", x.write(5, -1, 32), 4);
        memoryIs("behind the GAP", x, 32, 2, 0, 8, 7, 255);
    }

    private static void writeRefused() {
        Watched x = Watched.shapes("(4b)", "e5", "p", "1", "2", "[0x]", "4", "[12]");
        x.list(1, 1);
        x.fill(3);
        due.is("ALIGN", x.write(0, -1, 2), OUTSIDE);
        due.is("not within", x.write(0, -1, 92), OUTSIDE);
        due.is("the last place", x.write(0, -1, 88), 8);
        due.is("below", x.write(0, -1, -4), OUTSIDE);
        due.is("MIN", x.write(0, -1, MIN), OUTSIDE);
        due.is("MAX", x.write(0, -1, MAX - 3), OUTSIDE);
        due.is("UNKNOWN", x.write(8, -1, 0), UNKNOWN);
        due.is("UNKNOWN, u", x.write(0, 1, 0), UNKNOWN);
        due.is("UNKNOWN, no u", x.write(5, -1, 0), UNKNOWN);
        x.list(1, 2);
        due.is("no TRUTH", x.write(0, -1, 0), STATE);
        due.is("OUTSIDE before STATE", x.write(0, -1, 1), OUTSIDE);
        x.list(1);
        due.is("too few", x.write(0, -1, 0), STATE);
        x.list(1, 1, 1);
        due.is("too many", x.write(0, -1, 0), STATE);
        x.list();
        due.is("none", x.write(0, -1, 0), STATE);
        long[][] fits = {{1, 4}, {2, 1}, {2, 0xFFFFFFFFL}, {3, 255}, {4, 65535}, {6, 0xFFFFFFFFL}, {6, 0}};
        for (long[] f : fits) {
            x.list(f[1]);
            due.holds(f[1] + " fits " + f[0], x.write((int) f[0], -1, 40) > 0);
        }
        x.fill(3);
        long[][] fitsNot = {{1, 5}, {2, 0}, {3, 256}, {4, 65536}};
        for (long[] f : fitsNot) {
            x.list(f[1]);
            due.is(f[1] + " fits " + f[0] + " not", x.write((int) f[0], -1, 40), STATE);
        }
        x.list(2, 0);
        due.is("no such TERM", x.write(7, -1, 40), STATE);
        x.list(4294967295L, 0);
        due.is("no such TERM", x.write(7, -1, 40), STATE);
        x.list(2);
        due.is("no such TERM, without a VALUE", x.write(7, -1, 40), STATE);
        x.list(0);
        due.is("a number without its VALUE", x.write(7, -1, 40), STATE);
        memoryIs("nothing changed", x, 40, 3, 3, 3, 3);
        x.tell(0, "(4");
        due.is("NO", x.write(0, -1, 0), NO);
        Watched y = Watched.shapes("(111111)", "(AAAAAA)", "(BAAAA)", "(C1)");
        y.list(new long[60]);
        due.is("60 numbers", y.write(2, -1, 0), 60);
        due.is("60 where 61 are asked for", y.write(3, -1, 0), STATE);
    }

    private static void read() {
        String[] texts = {"(1b2e9p4)", "[2(4b)01]", "[0p]", "[124]", "[[0b]0(0)]", "[4]", "0", "(xx)"};
        long[][] values = {{0, 255, 1, 65535, 8, 0xFFFFFFFFL, 0xFFFFFFFFL}, {0, 0, 0, 0, 0, 1, 0},
            {1, 0, 513}, {1, 1, 0xFFFFFFFFL, 1}, {1, 1, 0, 0}, {1, 2}, {1, 3, 9}, {2, 0}, {2, 1, 1}, {2, 1, 0xFEDCBA98L},
            {3, 0, 5}, {3, 1, 600}, {3, 2, 0xFFFFFFFFL}, {4, 0, 0}, {4, 0, 1, 0}, {4, 0, 1, 1}, {4, 1}, {4, 2}, {5, 0, 8}, {6}};
        for (long[] v : values) {
            long[] numbers = java.util.Arrays.copyOfRange(v, 1, v.length);
            int shape = (int) v[0];
            Watched y = Watched.shapes(texts);
            y.fill(170);
            y.list(numbers);
            due.holds("written", y.write(shape, -1, 16) >= 0);
            y.list(99, 98, 97);
            due.is("read of " + shape, y.read(shape, -1, 16), numbers.length);
            listIs("read of " + shape, y, numbers);
        }
        Watched x = Watched.shapes(texts);
        x.fill(1);
        due.is("by u", x.read(7, 0, 0), 12);
        listIs("by u", x, 1, 1, 257, 1, 0x01010101, 0x01010101, 1, 1, 257, 1, 0x01010101, 0x01010101);
        // bytes that are of nothing are not looked at
        x.poke(21, 77);
        due.is("idle bytes", x.read(0, -1, 16), 6);
        x.fill(200);
        x.poke(4, 1);
        due.is("no PATTERN in the GAP: the HOST", x.read(1, -1, 0), 3);
        listIs("the HOST", x, 1, 0xC8C8C8C8L, 1);
        due.is("NOTHING at the end", x.read(6, -1, 96), 0);
        due.is("the LIST is empty then", x.given(-1), 0);
    }

    private static void readRefused() {
        Watched x = Watched.shapes("(4b)", "e5", "p", "[12]", "[2(4b)01]", "([4][4][4][4][4][4])", "([1][1][1][1][1][1])", "(GGGGGG)");
        x.list(42);
        due.is("ALIGN", x.read(0, -1, 2), OUTSIDE);
        due.is("not within", x.read(0, -1, 92), OUTSIDE);
        due.is("below", x.read(0, -1, -8), OUTSIDE);
        due.is("MIN", x.read(0, -1, MIN), OUTSIDE);
        due.is("96", x.read(1, -1, 96), OUTSIDE);
        due.is("95", x.read(1, -1, 95), 1);
        x.list(42);
        due.is("UNKNOWN", x.read(-1, -1, 0), UNKNOWN);
        due.is("UNKNOWN, u", x.read(0, 1, 0), UNKNOWN);
        x.poke(4, 2);
        due.is("no TRUTH", x.read(0, -1, 0), STATE);
        x.poke(4, 5);
        due.is("no CHOICE", x.read(1, -1, 4), STATE);
        due.is("no PLACE", x.read(2, -1, 8), STATE);
        x.poke(11, 1);
        due.is("a PLACE by its last byte", x.read(2, -1, 8), 1);
        x.list(42);
        x.poke(12, 2);
        due.is("no byte in front", x.read(3, -1, 12), STATE);
        x.poke(20, 5);
        due.is("the HOST by no PATTERN, but no VALUE of it", x.read(4, -1, 16), STATE);
        due.is("FULL", x.read(7, -1, 0), FULL);
        x.tell(7, "(GGGGG)");
        listIs("nothing changed", x, 42);
        due.is("60", x.read(7, -1, 0), 60);
        x.list(42);
        x.tell(7, "(GGGGGb)");
        x.poke(30, 1);
        due.is("61", x.read(7, -1, 0), FULL);
        x.poke(30, 2);
        due.is("STATE before FULL", x.read(7, -1, 0), STATE);
        listIs("nothing changed", x, 42);
        x.tell(7, "(G");
        due.is("NO", x.read(7, -1, 0), NO);
    }

    private static void which() {
        Watched x = Watched.shapes("[2(4b)01]", "[0p]", "[124]", "[4]", "(1)", "A", "[0x]", "[[0b]0]");
        due.is("the HOST", x.which(0, -1, 0), 1);
        int[] lies = {1, 1, 0, 2, 3, 1};
        for (int v = 0; v < lies.length; v++) {
            x.poke(4, v);
            due.is("by " + v, x.which(0, -1, 0), lies[v]);
            due.is("a letter by " + v, x.which(5, -1, 0), lies[v]);
        }
        due.is("no PLACE", x.which(1, -1, 8), 0);
        x.poke(10, 1);
        due.is("a PLACE", x.which(1, -1, 8), 1);
        for (int v = 0; v < 3; v++) {
            x.poke(16, v);
            due.is("the byte in front", x.which(2, -1, 16), v);
        }
        x.poke(16, 3);
        due.is("none", x.which(2, -1, 16), STATE);
        x.poke(16, 255);
        due.is("none", x.which(2, -1, 16), STATE);
        due.is("of one TERM", x.which(3, -1, 16), 0);
        due.is("another KIND", x.which(4, -1, 16), NONE);
        due.is("OUTSIDE before NONE", x.which(4, -1, 96), OUTSIDE);
        x.poke(20, 4);
        due.is("by u", x.which(6, 7, 20), 0);
        x.poke(20, 3);
        due.is("by u, the HOST", x.which(6, 7, 20), 1);
        due.is("in the HOST", x.which(7, -1, 20), 1);
        due.is("ALIGN", x.which(0, -1, 2), OUTSIDE);
        due.is("not within", x.which(0, -1, 92), OUTSIDE);
        due.is("below", x.which(0, -1, -4), OUTSIDE);
        due.is("UNKNOWN", x.which(8, -1, 0), UNKNOWN);
        due.is("UNKNOWN, u", x.which(6, -1, 0), UNKNOWN);
        x.tell(0, "[");
        due.is("NO", x.which(5, -1, 0), NO);
        x.list(1);
        x.which(3, -1, 16);
        listIs("the LIST stays", x, 1);
    }

    // ---- 18 to 22

    private static void poke() {
        Watched x = new Watched();
        due.is("the first", x.poke(0, 255), 0);
        due.is("it was", x.poke(0, 0), 255);
        due.is("it was", x.poke(0, 1), 0);
        due.is("the last", x.poke(95, 7), 0);
        due.is("the last was", x.peek(95), 7);
        due.is("below", x.poke(-1, 0), OUTSIDE);
        due.is("above", x.poke(96, 0), OUTSIDE);
        due.is("a byte below", x.poke(0, -1), OUTSIDE);
        due.is("a byte above", x.poke(0, 256), OUTSIDE);
        due.is("MIN", x.poke(MIN, MIN), OUTSIDE);
        due.is("nothing changed", x.peek(0), 1);
    }

    private static void peek() {
        Watched x = new Watched();
        for (int p = 0; p < 96; p++) x.poke(p, p + 100);
        for (int p = 0; p < 96; p++) due.is("peek", x.peek(p), p + 100);
        due.is("below", x.peek(-1), OUTSIDE);
        due.is("above", x.peek(96), OUTSIDE);
        due.is("MAX", x.peek(MAX), OUTSIDE);
    }

    private static void image() {
        Watched x = new Watched();
        due.is("image(0)", x.image(0), 1);
        due.is("image(1)", x.image(1), 1);
        due.is("image(-1)", x.image(-1), OUTSIDE);
        due.is("image(2)", x.image(2), OUTSIDE);
        x.poke(0, 5);
        due.is("kept anew", x.image(0), 1);
        x.poke(0, 6);
        x.restore(0);
        due.is("the newer one", x.peek(0), 5);
        x.restore(1);
        due.is("the other one stays", x.peek(0), 0);
    }

    private static void restore() {
        Watched x = Watched.shapes("(1x)", "b", "", "", "", "", "", "0");
        due.is("not kept", x.restore(0), STATE);
        due.is("-1", x.restore(-1), OUTSIDE);
        due.is("2", x.restore(2), OUTSIDE);
        x.way(1);
        x.list(5, 6);
        x.poke(0, 8);
        x.poke(95, 9);
        x.image(1);
        due.is("not kept yet", x.restore(0), STATE);
        x.tell(0, "4");
        x.tell(7, "(pp)");
        x.say(1, 'b');
        x.way(0);
        x.list(1, 2, 3);
        x.poke(0, 1);
        x.poke(95, 1);
        for (int times = 0; times < 2; times++) {
            due.is("restore", x.restore(1), 1);
            due.is("signs", x.told(10), 4);
            due.is("a sign", x.told(100), '(');
            due.is("a sign", x.told(102), 'x');
            due.is("OPEN", x.told(20), 1);
            due.is("signs", x.told(11), 1);
            due.is("signs", x.told(17), 1);
            due.is("the WAY", x.told(0), 1);
            listIs("the LIST", x, 5, 6);
            due.is("a byte", x.peek(0), 8);
            due.is("a byte", x.peek(95), 9);
            x.poke(0, 77);
            x.give(4);
            x.say(0, '!');
        }
    }

    private static void told() {
        Watched x = Watched.shapes("(1x)", "b", "", "", "", "", "", "e2");
        x.way(1);
        x.list(9, 9, 9);
        due.is("the WAY", x.told(0), 1);
        due.is("the LIST", x.told(1), 3);
        int[] signs = {4, 1, 0, 0, 0, 0, 0, 2};
        for (int s = 0; s < 8; s++) {
            due.is("signs", x.told(10 + s), signs[s]);
            due.is("OPEN", x.told(20 + s), s == 0 ? 1 : 0);
        }
        due.is("100", x.told(100), '(');
        due.is("103", x.told(103), ')');
        due.is("104", x.told(104), OUTSIDE);
        due.is("200", x.told(200), 'b');
        due.is("801", x.told(801), '2');
        int[] outside = {-1, 2, 9, 18, 19, 28, 99, 140, 199, 201, 300, 802, 899, 900, MAX, MIN};
        for (int what : outside) due.is("told(" + what + ")", x.told(what), OUTSIDE);
        for (int n = 0; n < 36; n++) x.say(0, '~');
        due.is("139", x.told(139), '~');
        due.is("140", x.told(140), OUTSIDE);
    }
}
