/** The sentences of the document's second terms, and of promises 6 to 11, that name a bound: a test each. */
final class LayoutBoundsTest {
    private static final int STATE = -3, NONE = -6;
    private static final int SIZE = 0, ALIGN = 1, OFFSET = 2, PARTS = 6;
    private static final int ALONE = 0, HIDDEN = 1, TAGGED = 2;
    private static final int MIN = Integer.MIN_VALUE, MAX = Integer.MAX_VALUE;
    private static final Due due = new Due("LayoutBoundsTest");

    public static void main(String[] args) {
        plainTerms();
        nextOffset();
        byTheWay();
        sizeOfRecords();
        gapOfRecords();
        variantsOfOne();
        hosts();
        enoughPatterns();
        patternsUsedUp();
        roomBeforeTheGap();
        roomBehindTheGap();
        sizeOfHidden();
        tagged();
        parts();
        partsBehindALetter();
        hundredParts();
        sizeAbove64();
        letters500();
        termsByNumber();
        termsByWhat();
        kinds();
        variantsAndPatterns();
        least();
        idle();
        due.end();
    }

    /** SIZE, ALIGN, and the GAP: OFFSET, WIDTH, FIRST, COUNT (nothing more: none). */
    private static void isLaid(String what, Watched x, int shape, int u, int size, int align, int... gap) {
        due.is(what + ": SIZE", x.layout(shape, u, SIZE), size);
        due.is(what + ": ALIGN", x.layout(shape, u, ALIGN), align);
        String[] names = {": OFFSET", ": WIDTH", ": FIRST", ": COUNT"};
        for (int i = 0; i < 4; i++) due.is(what + names[i], x.layout(shape, u, OFFSET + i), gap.length == 0 ? NONE : gap[i]);
    }

    private static void isLaid(String text, int size, int align, int... gap) {
        isLaid(text, Watched.shapes(text), 0, -1, size, align, gap);
    }

    private static void offsetsAre(String what, Watched x, int shape, int... offsets) {
        for (int i = 0; i < offsets.length; i++) due.is(what + ": OFFSET of " + i, x.term(shape, -1, i, 0), offsets[i]);
        due.is(what + ": behind the last", x.term(shape, -1, offsets.length, 0), NONE);
    }

    private static void offsetsAre(int way, String text, int... offsets) {
        Watched x = Watched.shapes(text);
        x.way(way);
        offsetsAre(text + " by " + way, x, 0, offsets);
    }

    // ---- the terms

    private static final String[] PLAIN = {"0", "1", "2", "4", "b", "p", "e2", "e3", "e4", "e5", "e6", "e7", "e8", "e9"};
    private static final int[] PLAIN_SIZES = {0, 1, 2, 4, 1, 4, 1, 1, 1, 1, 1, 1, 1, 1};

    private static int[] plainGap(String text) {
        char c = text.charAt(0);
        if (c == 'b') return new int[] {0, 1, 2, 254};
        if (c == 'p') return new int[] {0, 4, 0, 1};
        if (c == 'e') return new int[] {0, 1, text.charAt(1) - '0', 256 - (text.charAt(1) - '0')};
        return new int[0];
    }

    /** "NOTHING: SIZE 0, ALIGN 1, no GAP ... A letter, x: as what it stands for." */
    private static void plainTerms() {
        for (int i = 0; i < PLAIN.length; i++) {
            int size = PLAIN_SIZES[i];
            int align = Math.max(1, size);
            int[] gap = plainGap(PLAIN[i]);
            isLaid(PLAIN[i], size, align, gap);
            Watched x = Watched.shapes("x", PLAIN[i], "B", "A" + PLAIN[i], "AB", "(x)", "[x]");
            isLaid("as x, " + PLAIN[i], x, 0, 1, size, align, gap);
            isLaid("as x by a letter, " + PLAIN[i], x, 0, 2, size, align, gap);
            isLaid("as a letter, " + PLAIN[i], x, 2, -1, size, align, gap);
            isLaid("behind a letter, " + PLAIN[i], x, 3, -1, size, align, gap);
            isLaid("as a letter behind a letter, " + PLAIN[i], x, 4, -1, size, align, gap);
            isLaid("in a RECORD, " + PLAIN[i], x, 5, 1, size, align, gap);
            isLaid("in a VARIANT, " + PLAIN[i], x, 6, 1, size, align, gap);
        }
    }

    private static int upTo(int n, int align) {
        int next = n;
        while (next % align != 0) next++;
        return next;
    }

    /** "each at the next OFFSET that its ALIGN divides" */
    private static void nextOffset() {
        for (int ones = 0; ones <= 5; ones++) {
            String before = "1".repeat(ones);
            for (int align : new int[] {1, 2, 4}) {
                String text = "(" + before + align + ")";
                due.is("OFFSET in " + text, Watched.shapes(text).term(0, -1, ones, 0), upTo(ones, align));
            }
            due.is("OFFSET of a PLACE", Watched.shapes("(" + before + "p)").term(0, -1, ones, 0), upTo(ones, 4));
            due.is("OFFSET of NOTHING", Watched.shapes("(" + before + "0)").term(0, -1, ones, 0), ones);
            due.is("OFFSET of a RECORD", Watched.shapes("(" + before + "(12))").term(0, -1, ones, 0), upTo(ones, 2));
            due.is("OFFSET of a VARIANT", Watched.shapes("(" + before + "[14])").term(0, -1, ones, 0), upTo(ones, 4));
        }
        offsetsAre(0, "(121212)", 0, 2, 4, 6, 8, 10);
        offsetsAre(0, "(141414)", 0, 4, 8, 12, 16, 20);
        offsetsAre(0, "(242424)", 0, 4, 8, 12, 16, 20);
        offsetsAre(0, "(101010)", 0, 1, 1, 2, 2, 3);
    }

    /** "by WAY 0 (at first) as told, by WAY 1 those of greater ALIGN first, of as great as told" */
    private static void byTheWay() {
        offsetsAre(1, "(121212)", 6, 0, 7, 2, 8, 4);
        offsetsAre(1, "(141414)", 12, 0, 13, 4, 14, 8);
        offsetsAre(1, "(124124)", 12, 8, 0, 13, 10, 4);
        offsetsAre(1, "(0p0b2)", 6, 0, 6, 6, 4);
        offsetsAre(1, "((121)[14](44)2)", 16, 0, 8, 20);
        offsetsAre(1, "(1)", 0);
        offsetsAre(1, "(112)", 2, 3, 0);
        // the WAY is of RECORDS in it, too, and of no VARIANT
        Watched x = Watched.shapes("((121)1)", "[121]", "(1A)");
        isLaid("as told", x, 0, -1, 8, 2);
        isLaid("a VARIANT as told", x, 1, -1, 4, 2, 0, 1, 3, 253);
        isLaid("by a letter as told", x, 2, -1, 10, 2);
        x.way(1);
        isLaid("packed", x, 0, -1, 6, 2);
        isLaid("a VARIANT packed", x, 1, -1, 4, 2, 0, 1, 3, 253);
        isLaid("by a letter packed", x, 2, -1, 8, 2);
        offsetsAre("a VARIANT packed", x, 1, 1, 2, 1);
        x.way(0);
        isLaid("as told again", x, 0, -1, 8, 2);
    }

    /** "ALIGN: the greatest of them; SIZE: the end of the last one, up to the next that this divides." */
    private static void sizeOfRecords() {
        for (int ones = 0; ones <= 5; ones++) {
            String behind = "1".repeat(ones);
            isLaid("(1" + behind + ")", 1 + ones, 1);
            isLaid("(2" + behind + ")", upTo(2 + ones, 2), 2);
            isLaid("(4" + behind + ")", upTo(4 + ones, 4), 4);
            isLaid("(0" + behind + ")", ones, 1);
        }
        isLaid("(000000)", 0, 1);
        isLaid("(((0)))", 0, 1);
        isLaid("(21)", 4, 2);
        isLaid("((21)1)", 6, 2);
        isLaid("(1(4))", 8, 4);
        isLaid("(12)", 4, 2);
        isLaid("(214)", 8, 4);
        isLaid("(124)", 8, 4);
        isLaid("(421)", 8, 4);
        isLaid("(412)", 8, 4);
    }

    /** "that of the greatest COUNT, of as great that of the least OFFSET in the RECORD" */
    private static void gapOfRecords() {
        isLaid("(1)", 1, 1);
        isLaid("(124)", 8, 4);
        isLaid("(e3e2)", 2, 1, 1, 1, 2, 254);
        isLaid("(e2e3)", 2, 1, 0, 1, 2, 254);
        isLaid("(e9e8e7)", 3, 1, 2, 1, 7, 249);
        isLaid("(pe9)", 8, 4, 4, 1, 9, 247);
        isLaid("(e9p)", 8, 4, 0, 1, 9, 247);
        isLaid("(be2)", 2, 1, 0, 1, 2, 254);
        isLaid("(1e2b)", 3, 1, 1, 1, 2, 254);
        isLaid("(p4p)", 12, 4, 0, 4, 0, 1);
        isLaid("(4pp)", 12, 4, 4, 4, 0, 1);
        isLaid("(4(2b)b)", 12, 4, 6, 1, 2, 254);
        isLaid("(4[11])", 8, 4, 4, 1, 2, 254);
        isLaid("([111][11])", 4, 1, 2, 1, 2, 254);
        isLaid("(1(1(1(1(1b)))))", 6, 1, 5, 1, 2, 254);
        // packed, the one told later may lie first
        Watched x = Watched.shapes("(b(2b))", "(p(4p))", "(e3(2e3)e3)", "(b(2e3))");
        x.way(1);
        isLaid("of as great, the least OFFSET", x, 0, -1, 6, 2, 2, 1, 2, 254);
        isLaid("of as great ALIGN, too", x, 1, -1, 12, 4, 0, 4, 0, 1);
        isLaid("of three", x, 2, -1, 6, 2, 2, 1, 3, 253);
        isLaid("of greater COUNT", x, 3, -1, 6, 2, 4, 1, 2, 254);
    }

    /** "A VARIANT of one TERM is as that." */
    private static void variantsOfOne() {
        isLaid("[0]", 0, 1);
        isLaid("[1]", 1, 1);
        isLaid("[p]", 4, 4, 0, 4, 0, 1);
        isLaid("[(1b2)]", 4, 2, 1, 1, 2, 254);
        isLaid("[[[e9]]]", 1, 1, 0, 1, 9, 247);
        isLaid("[[11]]", 2, 1, 0, 1, 2, 254);
        isLaid("[[0p]]", 4, 4);
        offsetsAre(0, "[4]", 0);
    }

    /** "the HOST is that of the greatest SIZE, the first of as great; ALIGN is the greatest of all" */
    private static void hosts() {
        String[] texts = {"[b0]", "[0b]", "[00b]", "[0b00]", "[(b1)1]", "[1(b1)]", "[0(1b)(1e3)]", "[0(1e3)(1b)]", "[(11)(1b)0]",
            "[(1b)(11)0]", "[(1b)10]", "[00000e2]", "[e200000]"};
        int[] hosts = {0, 1, 2, 1, 0, 1, NONE, NONE, NONE, NONE, 0, 5, 0};
        for (int i = 0; i < texts.length; i++) {
            Watched x = Watched.shapes(texts[i]);
            due.is("HIDDEN " + texts[i], x.variant(0, -1, 0), hosts[i] == NONE ? TAGGED : HIDDEN);
            due.is("HOST of " + texts[i], x.variant(0, -1, 1), hosts[i]);
        }
        // of as great the first one, which has no GAP: no matter that the second one has
        due.is("the first has no GAP", Watched.shapes("[1b]").variant(0, -1, 0), TAGGED);
        due.is("the first has a GAP, but no room", Watched.shapes("[b1]").variant(0, -1, 0), TAGGED);
        // a greater SIZE by one byte
        due.is("greater by a byte", Watched.shapes("[(111)(111b)]").variant(0, -1, 1), 1);
        due.is("greater by a byte", Watched.shapes("[(111b)(111)]").variant(0, -1, 1), 0);
        isLaid("[((1111)b)4]", 8, 4, 4, 1, 3, 253);
        isLaid("[((1111)b)2]", 6, 2, 4, 1, 3, 253);
        isLaid("[((1111)b)1]", 5, 1, 4, 1, 3, 253);
    }

    /** "the HOST has a GAP, whose COUNT is no less than how many others there are" */
    private static void enoughPatterns() {
        isLaid("[0p]", 4, 4);
        isLaid("[p0]", 4, 4);
        isLaid("[00p]", 8, 4, 0, 1, 3, 253);
        isLaid("[0p0]", 8, 4, 0, 1, 3, 253);
        isLaid("[4]", 4, 4);
        isLaid("[04]", 8, 4, 0, 1, 2, 254);
        for (int others = 1; others <= 5; others++) {
            String text = "[" + "0".repeat(others) + "b]";
            isLaid(text, 1, 1, 0, 1, 2 + others, 254 - others);
            isLaid("[e9" + "0".repeat(others) + "]", 1, 1, 0, 1, 9 + others, 247 - others);
        }
        // the PLACE's one pattern is of no use where another GAP is greater
        isLaid("[00(pe9)]", 8, 4, 4, 1, 11, 245);
        // two PLACES: the first one's GAP alone
        isLaid("[0(pp)]", 8, 4);
        due.is("two others and two PLACES", Watched.shapes("[00(pp)]").variant(0, -1, 0), TAGGED);
    }

    /** "FIRST as much greater as there are others, COUNT as much less; none, if none is left" */
    private static void patternsUsedUp() {
        Watched x = Watched.shapes("[b00000]", "[A00000]", "[B00000]", "[C00000]", "[D00000]", "[E00000]", "[F00000]", "[G00000]");
        for (int s = 0; s < 8; s++) {
            isLaid("around each other " + s, x, s, -1, 1, 1, 0, 1, 7 + 5 * s, 249 - 5 * s);
            for (int i = 1; i <= 5; i++) due.is("PATTERN " + i + " of " + s, x.pattern(s, -1, i), 1 + 5 * s + i);
            due.is("PATTERN of the HOST", x.pattern(s, -1, 0), NONE);
            due.is("PARTS", x.layout(s, -1, PARTS), 7 + 6 * s);
        }
        Watched y = Watched.shapes("[0p]", "[0A]", "[0B]", "(A)", "[0(A)]", "(Ab)", "[0F]");
        isLaid("none is left", y, 0, -1, 4, 4);
        isLaid("a tag around it", y, 1, -1, 8, 4, 0, 1, 2, 254);
        isLaid("hidden in the tag", y, 2, -1, 8, 4, 0, 1, 3, 253);
        isLaid("none in a RECORD of it", y, 3, -1, 4, 4);
        due.is("a tag around that", y.variant(4, -1, 0), TAGGED);
        isLaid("another GAP beside it", y, 5, -1, 8, 4, 4, 1, 2, 254);
        due.is("hidden in the other", y.variant(6, -1, 0), HIDDEN);
    }

    /** "at 0, if its SIZE is no greater than the OFFSET of the GAP" */
    private static void roomBeforeTheGap() {
        String ones = "(1111";
        for (int before = 0; before <= 4; before++) {
            // so many bytes, then the GAP, and nothing behind it
            String host = ones.substring(0, 1 + before) + "b)";
            for (int other = 0; other <= before + 1; other++) {
                String text = "[" + host + (other == 0 ? "0" : "(" + "1".repeat(other) + ")") + "]";
                Watched x = Watched.shapes(text);
                boolean room = other <= before;
                due.is(text, x.variant(0, -1, 0), room ? HIDDEN : TAGGED);
                due.is(text + ", SIZE", x.layout(0, -1, SIZE), room ? before + 1 : before + 2);
                due.is(text + ", OFFSET", x.term(0, -1, 1, 0), room ? 0 : 1);
            }
        }
        offsetsAre(0, "[(24b)4]", 0, 0);
        due.is("4 before a GAP at 4", Watched.shapes("[(4b)4]").variant(0, -1, 0), HIDDEN);
        due.is("8 before a GAP at 4", Watched.shapes("[(4b)(44)]").variant(0, -1, 0), TAGGED);
        due.is("5 (up to 8) before a GAP at 8", Watched.shapes("[(44b)(41)]").variant(0, -1, 0), HIDDEN);
        due.is("NOTHING before a GAP at 0", Watched.shapes("[b0]").term(0, -1, 1, 0), 0);
        due.is("0 bytes of a RECORD before a GAP at 0", Watched.shapes("[b(00)]").term(0, -1, 1, 0), 0);
    }

    /** "else at the first OFFSET behind the GAP that its ALIGN divides, if its end is no greater than the SIZE of the HOST" */
    private static void roomBehindTheGap() {
        for (int behind = 0; behind <= 4; behind++) {
            String host = "(b" + "1".repeat(behind) + ")";
            for (int other = 1; other <= behind + 1; other++) {
                String text = "[" + host + "(" + "1".repeat(other) + ")]";
                Watched x = Watched.shapes(text);
                boolean room = other <= behind;
                due.is(text, x.variant(0, -1, 0), room ? HIDDEN : TAGGED);
                due.is(text + ", OFFSET", x.term(0, -1, 1, 0), 1);
                due.is(text + ", SIZE", x.layout(0, -1, SIZE), room ? behind + 1 : behind + 2);
            }
        }
        // an ALIGN that moves it on: end 4 in SIZE 3, 4, 5
        due.is("end 4 in 3, though SIZE would be 4", Watched.shapes("[(b11)2]").variant(0, -1, 0), TAGGED);
        due.is("end 4 in 4", Watched.shapes("[(b111)2]").variant(0, -1, 0), HIDDEN);
        due.is("end 4 in 5", Watched.shapes("[(b1111)2]").variant(0, -1, 0), HIDDEN);
        offsetsAre(0, "[(b111)2]", 0, 2);
        // ALIGN 4 behind a GAP at 0: end 8 in SIZE 7, 8
        due.is("end 8 in 7, though SIZE would be 8", Watched.shapes("[(b11(111)1)4]").variant(0, -1, 0), TAGGED);
        due.is("end 8 in 8", Watched.shapes("[(b11(111)11)4]").variant(0, -1, 0), HIDDEN);
        offsetsAre(0, "[(b11(111)11)4]", 0, 4);
        // behind a GAP of WIDTH 4
        due.is("behind a PLACE", Watched.shapes("[(p4)4]").variant(0, -1, 0), HIDDEN);
        offsetsAre(0, "[(p4)4]", 0, 4);
        offsetsAre(0, "[(p4)1]", 0, 4);
        offsetsAre(0, "[(4p)1]", 0, 0);
        due.is("no room behind a PLACE", Watched.shapes("[(p2)4]").variant(0, -1, 0), HIDDEN);
        due.is("no room behind a PLACE", Watched.shapes("[(p4)(42)]").variant(0, -1, 0), TAGGED);
        due.is("no room behind a PLACE", Watched.shapes("[p1]").variant(0, -1, 0), TAGGED);
        // one before, one behind, one that finds no room
        offsetsAre(0, "[(11b111)(11)(111)1]", 0, 0, 3, 0);
        offsetsAre(0, "[(1b2)121]", 0, 0, 2, 0);
        due.is("one of many finds no room", Watched.shapes("[(11b111)(11)(111)(1111)]").variant(0, -1, 0), TAGGED);
        offsetsAre(0, "[(11)(111)(1111)(11b111)]", 1, 1, 1, 1);
        // the GAP may be that of one deeper
        offsetsAre(0, "[(1(1b1)11)(11)(111)]", 0, 0, 3);
    }

    /** "SIZE: that of the HOST, up to the next that ALIGN divides." */
    private static void sizeOfHidden() {
        isLaid("[(111b)2]", 4, 2, 3, 1, 3, 253);
        isLaid("[(1111b)2]", 6, 2, 4, 1, 3, 253);
        isLaid("[(1111b)4]", 8, 4, 4, 1, 3, 253);
        isLaid("[(11111b)4]", 8, 4, 5, 1, 3, 253);
        isLaid("[(222b)4]", 8, 4, 6, 1, 3, 253);
        isLaid("[(2222b)4]", 12, 4, 8, 1, 3, 253);
        isLaid("[(1b1)0]", 3, 1, 1, 1, 3, 253);
        // what is behind the HOST is no room for others around it
        due.is("SIZE 5 up to 8", Watched.shapes("([(1111b)4]1)").layout(0, -1, SIZE), 12);
    }

    /** "TAGGED, else: a byte at 0 ... from 1 on ... SIZE: the greatest end (1 at least) ... 256 less that" */
    private static void tagged() {
        for (int n = 2; n <= 6; n++) {
            isLaid("[" + "0".repeat(n) + "]", 1, 1, 0, 1, n, 256 - n);
            isLaid("[" + "1".repeat(n) + "]", 2, 1, 0, 1, n, 256 - n);
            isLaid("[" + "2".repeat(n) + "]", 4, 2, 0, 1, n, 256 - n);
            isLaid("[" + "4".repeat(n) + "]", 8, 4, 0, 1, n, 256 - n);
            Watched x = Watched.shapes("[" + "4".repeat(n) + "]");
            for (int i = 0; i < n; i++) due.is("the byte in front", x.pattern(0, -1, i), i);
            due.is("no such byte in front", x.pattern(0, -1, n), NONE);
        }
        offsetsAre(0, "[0124p(1)]", 1, 1, 2, 4, 4, 1);
        offsetsAre(0, "[(12)(14)(11)]", 2, 4, 1);
        isLaid("[(12)(14)(11)]", 12, 4, 0, 1, 3, 253);
        isLaid("[(111)2]", 4, 2, 0, 1, 2, 254);
        isLaid("[(1111)2]", 6, 2, 0, 1, 2, 254);
        isLaid("[(111)4]", 8, 4, 0, 1, 2, 254);
        isLaid("[01]", 2, 1, 0, 1, 2, 254);
    }

    /** "PARTS: all TERMS in it, itself, and PARTS of each letter instead of it ..." */
    private static void parts() {
        Watched x = Watched.shapes("1", "(12)", "[BB]", "x", "(xx)", "(xEx1)", "D(12)", "(EB)");
        int[] counts = {1, 3, 7, 1, 3, -1, 3, -1};
        for (int s = 0; s < 8; s++) {
            if (counts[s] < 0) continue;
            boolean open = s == 3 || s == 4;
            due.is("PARTS of " + s, x.layout(s, open ? 0 : -1, PARTS), counts[s]);
        }
        due.is("PARTS of x", x.layout(3, 2, PARTS), 7);
        due.is("PARTS of two x", x.layout(4, 1, PARTS), 1 + 3 + 3);
        due.is("PARTS of x, of one behind a letter for two x, of 1", x.layout(5, 1, PARTS), 1 + 3 + (1 + 3 + 3) + 1);
        due.is("PARTS of one behind a letter", x.tell(7, "(E(12))").layout(7, -1, PARTS), 1 + (1 + 3 + 3));
        due.is("PARTS of one behind two letters", x.tell(7, "EE1").layout(7, -1, PARTS), 1 + 3 + 3);
        due.is("PARTS of letters behind two letters", x.tell(7, "EEB").layout(7, -1, PARTS), 1 + 7 + 7);
        due.is("PARTS of RECORDS and VARIANTS of one", x.tell(7, "(([([1])]))").layout(7, -1, PARTS), 6);
    }

    /** "a TERM behind a letter counts as often as an x stands for it, not by itself" */
    private static void partsBehindALetter() {
        // what is behind A and B is of 33 PARTS
        Watched x = Watched.shapes("(xxx)", "(xxx0)", "(000000)", "A(CCCC(0)(0))", "B(CCCC(0)(0))", "(x)", "F(D)", "F(D0)");
        due.is("PARTS 33", x.tell(7, "(CCCC(0)(0))").layout(7, -1, PARTS), 33);
        due.is("three times, and the RECORD: 100", x.layout(3, -1, PARTS), 100);
        due.is("three times, the RECORD, and 0: 101", x.layout(4, -1, PARTS), STATE);
        due.is("SIZE of 100", x.layout(3, -1, SIZE), 0);
        due.is("SIZE of 101", x.layout(4, -1, SIZE), STATE);
        due.is("behind one letter more: 102", x.layout(6, -1, PARTS), STATE);
        x.tell(3, "A(CCCC(0)0)");
        due.is("three times 32, and the RECORD: 97", x.layout(3, -1, PARTS), 97);
        due.is("behind one letter more: 99", x.layout(6, -1, PARTS), 99);
        due.is("and 0: 100", x.tell(7, "F(D0)").layout(7, -1, PARTS), 100);
        due.is("and 00: 101", x.tell(7, "F(D00)").layout(7, -1, PARTS), STATE);
        // an x in what is behind a letter is that of the text that it stands in
        due.is("x behind a letter", x.tell(7, "A(x0)").layout(7, 2, PARTS), 1 + 3 * (2 + 7));
        due.is("x behind a letter, and beside it", x.tell(7, "(xAx)").layout(7, 2, PARTS), 1 + 7 + 1 + 3 * 7);
        due.is("x behind two letters", x.tell(7, "AAx").layout(7, 2, PARTS), 1 + 3 * (1 + 3 * 7));
    }

    // ---- OVER

    private static Watched ofParts(String last) {
        // 1, 7, 43, 86: (000000) is 7, six of these and itself 43
        return Watched.shapes("(000000)", "(AAAAAA)", "(BB)", "(C" + last + ")", "x", "(xE0)", "0");
    }

    /** "A SHAPE of more than 100 PARTS ... is OVER." */
    private static void hundredParts() {
        due.is("PARTS 87 and 1", ofParts("").layout(3, -1, PARTS), 88);
        due.is("PARTS 99", ofParts("0(0(0(00000)))").layout(3, -1, PARTS), 99);
        due.is("PARTS 100", ofParts("0(0(0(000000)))").layout(3, -1, PARTS), 100);
        due.is("PARTS 101", ofParts("00(0(0(000000)))").layout(3, -1, PARTS), STATE);
        due.is("PARTS 100, SIZE", ofParts("0(0(0(000000)))").layout(3, -1, SIZE), 0);
        due.is("PARTS 101, SIZE", ofParts("00(0(0(000000)))").layout(3, -1, SIZE), STATE);
        for (String opener : new String[] {"(", "["}) {
            String closer = opener.equals("(") ? ")" : "]";
            due.is("PARTS 100 by " + opener, ofParts("0(0(0" + opener + "000000" + closer + "))").layout(3, -1, PARTS), 100);
            due.is("PARTS 101 by " + opener, ofParts("00(0(0" + opener + "000000" + closer + "))").layout(3, -1, PARTS), STATE);
        }
        // by what stands for x
        Watched x = Watched.shapes("(000000)", "(AAAAAA)", "(BB000)", "(Bx)", "(Bxx)", "(Cx)", "(AAAAAA(0))", "0");
        due.is("PARTS of u 43", x.layout(1, -1, PARTS), 43);
        due.is("PARTS of u 90", x.layout(2, -1, PARTS), 90);
        due.is("PARTS 44 and 43", x.layout(3, 1, PARTS), 87);
        due.is("PARTS 44 and 90", x.layout(3, 2, PARTS), STATE);
        due.is("PARTS 44 and 86", x.layout(4, 1, PARTS), STATE);
        due.is("PARTS 91 and 7", x.layout(5, 0, PARTS), 98);
        due.is("PARTS 91 and 43", x.layout(5, 1, PARTS), STATE);
        due.is("PARTS 91 and 9", x.tell(6, "(00000((0)))").layout(5, 6, PARTS), 100);
        due.is("PARTS 91 and 10", x.tell(6, "(00000(((0))))").layout(5, 6, PARTS), STATE);
        due.is("no more than 100 of u by itself", x.layout(6, -1, PARTS), 10);
    }

    /** "or of a SIZE above 64 (of itself, or of any of them)" */
    private static void sizeAbove64() {
        Watched x = Watched.shapes("(444444)", "(AA444)", "(B1)", "(B2)", "(B4)", "(B41)", "(Bx)", "1");
        due.is("60", x.layout(1, -1, SIZE), 60);
        due.is("61 up to 64", x.layout(2, -1, SIZE), 64);
        due.is("62 up to 64", x.layout(3, -1, SIZE), 64);
        due.is("64", x.layout(4, -1, SIZE), 64);
        due.is("65 up to 68", x.layout(5, -1, SIZE), STATE);
        due.is("64 by u", x.layout(6, 7, SIZE), 64);
        due.is("above 64 by u", x.layout(6, 0, SIZE), STATE);
        due.is("64 by a VARIANT of one", x.tell(7, "[E]").layout(7, -1, SIZE), 64);
        due.is("64 in a RECORD", x.tell(7, "(E)").layout(7, -1, SIZE), 64);
        due.is("64 and NOTHING", x.tell(7, "(E0)").layout(7, -1, SIZE), 64);
        due.is("64 TAGGED", x.tell(7, "[E0]").layout(7, -1, SIZE), STATE);
        due.is("64 in a VARIANT of one that is above", x.tell(7, "[F]").layout(7, -1, SIZE), STATE);
        due.is("60 TAGGED", x.tell(7, "[B0]").layout(7, -1, SIZE), 64);
        due.is("64 HIDDEN", x.tell(7, "[0(Bp)]").layout(7, -1, SIZE), 64);
        due.is("64 HIDDEN, in a VARIANT of one", x.tell(7, "[0[(Bp)]]").layout(7, -1, SIZE), 64);
        due.is("64 HIDDEN, with two others", x.tell(7, "[00(Bp)]").layout(7, -1, SIZE), STATE);
        Watched y = Watched.shapes("(111111)", "(AAAAAA)", "(BA(111111))", "(CAA(11)1)", "(CAA(11)11)", "[D0]", "[(CAA(11)b)0]");
        due.is("63 bytes", y.layout(3, -1, SIZE), 63);
        due.is("64 bytes", y.layout(4, -1, SIZE), 64);
        due.is("65 bytes", y.tell(4, "(CAA(111)11)").layout(4, -1, SIZE), STATE);
        due.is("PARTS of it are not asked", y.layout(4, -1, PARTS), STATE);
        due.is("63 TAGGED", y.layout(5, -1, SIZE), 64);
        due.is("64 TAGGED", y.tell(7, "[(D1)0]").layout(7, -1, SIZE), STATE);
        due.is("63 HIDDEN", y.layout(6, -1, SIZE), 63);
        due.is("63 HIDDEN, up to 64", y.tell(6, "[(CAA(11)b)4]").layout(6, -1, SIZE), 64);
        due.is("64 HIDDEN", y.tell(6, "[(CAA(11)1b)4]").layout(6, -1, SIZE), 64);
        due.is("65 HIDDEN", y.tell(6, "[(CAA(111)1b)4]").layout(6, -1, SIZE), STATE);
        // as told it is above, packed it is not; also one in it
        Watched z = Watched.shapes("(444444)", "(AA(444)121)", "(AA(444)12)", "((AA)(444)(121))", "(AAB)");
        due.is("above as told", z.layout(1, -1, SIZE), STATE);
        due.is("64 as told", z.layout(2, -1, SIZE), 64);
        due.is("66 up to 68 as told", z.layout(3, -1, SIZE), STATE);
        z.way(1);
        due.is("64 packed", z.layout(1, -1, SIZE), 64);
        due.is("64 packed", z.layout(2, -1, SIZE), 64);
        due.is("64 packed, in it", z.layout(3, -1, SIZE), 64);
        due.is("above by another", z.layout(4, -1, SIZE), STATE);
    }

    /** "or in which more than 500 letters of SHAPES and x are gone through, all together, each as often as it stands there" */
    private static void letters500() {
        // A has no letter; B is 6; C, of 6 B: 6 and 36; each letter counts itself and those behind it
        Watched x = Watched.shapes("0", "x", "B".repeat(39) + "x", "C".repeat(6) + "B".repeat(9) + "x", "DA", "(DA)");
        // a B with its TERM: 2 (itself, its x); 39 of them and the x behind them: 79; a C: 80 (itself, 79, of which the last
        // is the x that stands for what is behind it): D: 6 times 80, 9 times 2, and x: 499
        due.is("499 and the letter of u: 500", x.tell(6, "A").layout(3, 6, PARTS), 1);
        due.is("499", x.layout(3, 0, PARTS), 1);
        due.is("1, 499 and 1: 501", x.layout(4, -1, PARTS), STATE);
        due.is("1, 499 and 0: 500", x.tell(4, "D0").layout(4, -1, PARTS), 1);
        due.is("in a RECORD, 501", x.layout(5, -1, PARTS), STATE);
        due.is("in a RECORD, 500", x.tell(5, "(D0)").layout(5, -1, PARTS), 2);
        due.is("beside one more, 501", x.tell(5, "(D0A)").layout(5, -1, PARTS), STATE);
        due.is("before one more, 501", x.tell(5, "(AD0)").layout(5, -1, PARTS), STATE);
        due.is("all calls", x.idle(5, -1), STATE);
        // a TERM behind a letter is gone through as often as an x stands for it
        Watched y = Watched.shapes("0", "x", "(xxxxxx)", "C" + "B".repeat(36) + "A", "(DDDDDx)", "(DDDDD(AAAA))");
        // D: its C, 6 x, and for each of these 36 B with an x each, and A: 1 + 6 * (1 + 72 + 1) = 445
        due.is("445", y.layout(3, -1, PARTS), 7);
        due.is("445 and 1", y.tell(4, "D").layout(4, -1, PARTS), 7);
        due.is("446 and 54: 500", y.tell(5, "(DC(AAAAAA)(AAAAAA)AA(AAA))").layout(5, -1, PARTS), 64);
        due.is("446 and 55: 501", y.tell(5, "(DC(AAAAAA)(AAAAAA)AA(AAAA))").layout(5, -1, PARTS), STATE);
        // far more than 500 ends, too
        Watched z = Watched.shapes("x", "A".repeat(39) + "x", "B".repeat(39) + "x", "C".repeat(39) + "x", "D".repeat(39) + "x",
            "E".repeat(39) + "x", "F".repeat(39) + "x", "1");
        due.is("79 and 0", z.layout(1, 7, PARTS), 1);
        for (int s = 2; s < 7; s++) due.is("too many letters " + s, z.layout(s, 7, PARTS), STATE);
    }

    // ---- promises 7 to 11

    /** Promise 7: "Of the i-th TERM (as told, from 0 on)"; "NONE: there is no such TERM, or it is another KIND" */
    private static void termsByNumber() {
        for (String brackets : new String[] {"()", "[]"}) {
            for (int n = 1; n <= 6; n++) {
                Watched x = Watched.shapes(brackets.charAt(0) + "1".repeat(n) + brackets.charAt(1));
                for (int what = 0; what < 4; what++) {
                    for (int i = 1; i < n; i++) due.holds("TERM " + i + " of " + n, x.term(0, -1, i, what) >= 0);
                    for (int i : new int[] {-1, n, n + 1, 6, 7, MIN, MAX}) {
                        if (i < n) due.holds("no TERM " + i, i >= 0 || x.term(0, -1, i, what) == NONE);
                        else due.is("no TERM " + i + " of " + n, x.term(0, -1, i, what), NONE);
                    }
                }
            }
        }
        for (String plain : PLAIN) {
            Watched x = Watched.shapes(plain, "A", "x");
            for (int what = 0; what < 4; what++) {
                due.is("another KIND", x.term(0, -1, 0, what), NONE);
                due.is("a letter of another KIND", x.term(1, -1, 0, what), NONE);
                due.is("x of another KIND", x.term(2, 0, 0, what), NONE);
            }
        }
        // a RECORD of another SHAPE behind it leaves no TERM of that
        Watched y = Watched.shapes("(111111)", "(2)");
        due.is("six", y.term(0, -1, 5, 1), 1);
        due.is("one", y.term(1, -1, 0, 1), 2);
        due.is("no second", y.term(1, -1, 1, 1), NONE);
    }

    /** Promise 7: "the OFFSET (what = 0), SIZE (1), ALIGN (2)", each by itself */
    private static void termsByWhat() {
        int[][] terms = {{0, 2, 2}, {4, 4, 4}, {8, 1, 1}, {9, 0, 1}, {10, 4, 2}, {16, 8, 4}};
        Watched x = Watched.shapes("(24b0(12)[14])", "A", "x", "[0p]", "[2(b2)1]", "[2(44)1]", "[(12)]");
        for (int what = 0; what < 3; what++) {
            for (int i = 0; i < 6; i++) {
                due.is("TERM " + i + ", " + what, x.term(0, -1, i, what), terms[i][what]);
                due.is("TERM " + i + " of a letter, " + what, x.term(1, -1, i, what), terms[i][what]);
                due.is("TERM " + i + " of x, " + what, x.term(2, 0, i, what), terms[i][what]);
            }
        }
        int[][] hidden = {{2, 2, 2}, {0, 4, 2}, {1, 1, 1}};
        int[][] tags = {{2, 2, 2}, {4, 8, 4}, {1, 1, 1}};
        for (int what = 0; what < 3; what++) {
            for (int i = 0; i < 3; i++) {
                due.is("TERM " + i + " HIDDEN, " + what, x.term(4, -1, i, what), hidden[i][what]);
                due.is("TERM " + i + " TAGGED, " + what, x.term(5, -1, i, what), tags[i][what]);
            }
            due.is("TERM 0 of a PLACE's, " + what, x.term(3, -1, 0, what), what == 2 ? 1 : 0);
            due.is("a PLACE, " + what, x.term(3, -1, 1, what), what == 0 ? 0 : 4);
            due.is("one alone, " + what, x.term(6, -1, 0, what), new int[] {0, 4, 2}[what]);
        }
    }

    /** Promise 7: "KIND (3: 0 NOTHING ... 6 a VARIANT; of a letter, x, that of what it stands for)" */
    private static void kinds() {
        String[] texts = {"0", "1", "2", "4", "b", "e2", "e9", "p", "(1)", "[1]", "[0b]", "[11]"};
        int[] kinds = {0, 1, 1, 1, 2, 3, 3, 4, 5, 6, 6, 6};
        for (int i = 0; i < texts.length; i++) {
            Watched x = Watched.shapes(texts[i], "(A)", "(x)", "[Cx]", "[(4)A]", "A");
            due.is("KIND of a letter for " + texts[i], x.term(1, -1, 0, 3), kinds[i]);
            due.is("KIND of x for " + texts[i], x.term(2, 0, 0, 3), kinds[i]);
            due.is("KIND of x for a letter for " + texts[i], x.term(2, 5, 0, 3), kinds[i]);
            due.is("KIND of a letter with x behind it", x.term(3, 0, 0, 3), 5);
            due.is("KIND in a VARIANT", x.term(4, -1, 1, 3), kinds[i]);
            due.is("KIND as told", x.tell(6, "(" + texts[i] + ")").term(6, -1, 0, 3), kinds[i]);
        }
    }

    /** Promises 8 and 9: what is NONE, of each KIND and each of six TERMS. */
    private static void variantsAndPatterns() {
        String[] others = {"0", "1", "b", "e2", "p", "(1)", "([0b])", "(b)"};
        for (String text : others) {
            Watched x = Watched.shapes(text, "A", "[A]", "[0A]");
            for (int s = 0; s < 2; s++) {
                due.is("another KIND", x.variant(s, -1, 0), NONE);
                due.is("another KIND", x.variant(s, -1, 1), NONE);
                for (int i = -1; i < 3; i++) due.is("another KIND", x.pattern(s, -1, i), NONE);
            }
            due.is("of one TERM", x.variant(2, -1, 0), ALONE);
            due.is("of one TERM, no HOST", x.variant(2, -1, 1), NONE);
            for (int i = -1; i < 3; i++) due.is("of one TERM, no PATTERN", x.pattern(2, -1, i), NONE);
        }
        for (int host = 0; host < 6; host++) {
            String text = "[" + "0".repeat(host) + "e7" + "0".repeat(5 - host) + "]";
            Watched x = Watched.shapes(text);
            due.is("HIDDEN", x.variant(0, -1, 0), HIDDEN);
            due.is("HOST", x.variant(0, -1, 1), host);
            int next = 7;
            for (int i = 0; i < 6; i++) {
                due.is("PATTERN " + i + " of " + text, x.pattern(0, -1, i), i == host ? NONE : next);
                if (i != host) next++;
            }
            for (int i : new int[] {-1, 6, 7, MIN, MAX}) due.is("no TERM " + i, x.pattern(0, -1, i), NONE);
        }
        Watched x = Watched.shapes("[111111]");
        due.is("TAGGED", x.variant(0, -1, 0), TAGGED);
        due.is("TAGGED, no HOST", x.variant(0, -1, 1), NONE);
        for (int i = 0; i < 6; i++) due.is("the byte in front", x.pattern(0, -1, i), i);
        for (int i : new int[] {-1, 6, 7, MIN, MAX}) due.is("no byte in front", x.pattern(0, -1, i), NONE);
        due.is("a PLACE's PATTERN", Watched.shapes("[0p]").pattern(0, -1, 0), 0);
        due.is("a PLACE's HOST", Watched.shapes("[0p]").pattern(0, -1, 1), NONE);
    }

    /** Promise 10: "The least SIZE that a RECORD could have, by any order of its own fields (these as they are)" */
    private static void least() {
        String[] texts = {"(1)", "(0)", "(000000)", "(12)", "(121)", "(141414)", "(214214)", "(111114)", "(4)", "((12)1)", "([12]1)",
            "((121)1)", "(1(121)1)", "((1)(2)(1))", "(p1b)", "(1e2[14])", "((1)(1)2)"};
        int[] sizes = {1, 0, 0, 4, 4, 16, 16, 12, 4, 6, 6, 8, 8, 4, 8, 12, 4};
        for (int i = 0; i < texts.length; i++) {
            for (int way = 0; way < 2; way++) {
                if (way == 1 && texts[i].contains("(121)")) continue;
                Watched x = Watched.shapes(texts[i]);
                x.way(way);
                due.is("least by " + way + " of " + texts[i], x.least(0, -1), sizes[i]);
            }
            Watched y = Watched.shapes(texts[i]);
            y.way(1);
            due.is("packed it is that, " + texts[i], y.layout(0, -1, SIZE), y.least(0, -1));
        }
        for (String text : new String[] {"0", "1", "4", "b", "e3", "p", "[1]", "[(12)]", "[0(1b)]"}) {
            due.is("least of " + text, Watched.shapes(text).least(0, -1), NONE);
        }
        Watched z = Watched.shapes("(1(121)1)", "x", "A");
        z.way(1);
        due.is("those in it by the WAY", z.least(0, -1), 6);
        due.is("of x", z.least(1, 0), 6);
        due.is("of a letter", z.least(2, -1), 6);
        Watched w = Watched.shapes("(444444)", "(AA(444)121)", "(AA(444)12)");
        due.is("OVER, though another order is not", w.least(1, -1), STATE);
        due.is("64", w.least(2, -1), 64);
    }

    /** Promise 11: "How many bytes of its SIZE are of no NUMBER ... no byte in front, whatever its VALUE is." */
    private static void idle() {
        String[] texts = {"0", "1", "2", "4", "b", "e2", "p", "(0)", "(12)", "(14)", "(41)", "(4b)", "[0]", "[4]", "[(14)]", "[00]",
            "[01]", "[02]", "[04]", "[44]", "[12]", "[14]", "[124]", "[0b]", "[0p]", "[0(1p)]", "[(1111b)4]", "[(b1112)(111)]",
            "[(14b)(11)]", "[(14b)(1111)]", "[(14b)(12)0]", "([14]1)", "[(12)(21)]", "[[01][02]]", "(1(2(4)))"};
        int[] idles = {0, 0, 0, 0, 0, 0, 0, 0, 1, 3, 3, 3, 0, 0, 3, 0,
            0, 1, 3, 3, 0, 2, 0, 0, 0, 3, 3, 0, 5, 3, 4, 5, 1, 0, 5};
        for (int i = 0; i < texts.length; i++) due.is("idle of " + texts[i], Watched.shapes(texts[i]).idle(0, -1), idles[i]);
        for (int ones = 1; ones <= 4; ones++) {
            due.is("idle by ones", Watched.shapes("(" + "1".repeat(ones) + "4)").idle(0, -1), 4 - ones);
            due.is("idle by ones", Watched.shapes("(4" + "1".repeat(ones) + ")").idle(0, -1), 4 - ones);
        }
        Watched x = Watched.shapes("(141)", "x", "A", "(111111)", "(DDDDDD)", "(EDDDD1)", "(EDDD(11)(111))", "(DDD(11)14)");
        due.is("as told", x.idle(0, -1), 6);
        due.is("of x", x.idle(1, 0), 6);
        due.is("of a letter", x.idle(2, -1), 6);
        due.is("none of 61", x.idle(5, -1), 0);
        due.is("none of 59", x.idle(6, -1), 0);
        due.is("three of 28", x.idle(7, -1), 3);
        x.way(1);
        due.is("packed", x.idle(0, -1), 2);
        due.is("of another behind a greater one", x.idle(1, 4), 0);
    }
}
