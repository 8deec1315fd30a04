/** The sentences of the document's first terms, and of promises 1 to 5 and 22, that name a bound: a test each. */
final class ShapeBoundsTest {
    private static final int UNKNOWN = -1, OUTSIDE = -2, STATE = -3, FULL = -4, NO = -5, NONE = -6;
    private static final Due due = new Due("ShapeBoundsTest");

    public static void main(String[] args) {
        shapesAreZeroToSeven();
        upToFortySigns();
        codesOfSigns();
        everySignAlone();
        lettersOfLesserNumbers();
        choicesOfTwoToNine();
        oneToSixTerms();
        sixTermsByLetters();
        behindTheEnd();
        moreMustCome();
        fortySignsDeep();
        openByItsText();
        askedWithAnother();
        wellWithAllItsLetters();
        aNewObject();
        wipe();
        way();
        told();
        due.end();
    }

    private static void faultIs(String text, int want) {
        due.is("fault of " + text, Watched.shapes(text).fault(0), want);
    }

    // ---- the terms

    /** "SHAPES 0 to 7 (A to H) are told by a text each" */
    private static void shapesAreZeroToSeven() {
        for (int s = 0; s < 8; s++) {
            Watched x = new Watched();
            due.is("the first sign of " + s, x.say(s, 'b'), 1);
            for (int other = 0; other < 8; other++) {
                due.is("signs of " + other, x.told(10 + other), other == s ? 1 : 0);
                due.is("fault of " + other, x.fault(other), other == s ? NONE : 0);
                due.is("layout of " + other, x.layout(other, -1, 0), other == s ? 1 : NO);
            }
            due.is("wipe of " + s, x.wipe(s), 1);
        }
    }

    /** "of up to 40 signs" */
    private static void upToFortySigns() {
        for (int s = 0; s < 8; s++) {
            Watched x = new Watched();
            for (int n = 1; n <= 40; n++) due.is("sign " + n + " of " + s, x.say(s, 32 + n), n);
            due.is("the 41st of " + s, x.say(s, 'b'), FULL);
            due.is("signs of " + s, x.told(10 + s), 40);
            for (int p = 0; p < 40; p++) due.is("the sign at " + p, x.told(100 * s + 100 + p), 33 + p);
            due.is("no 41st sign", x.told(100 * s + 140), OUTSIDE);
            due.is("the next SHAPE has room", x.say((s + 1) % 8, 'b'), 1);
            due.is("wipe", x.wipe(s), 40);
            due.is("room again", x.say(s, 'b'), 1);
        }
    }

    /** "(codes 33 to 126; none, at first)" */
    private static void codesOfSigns() {
        for (int sign = 0; sign < 260; sign++) {
            Watched x = new Watched();
            boolean taken = sign >= 33 && sign <= 126;
            due.is("say " + sign, x.say(3, sign), taken ? 1 : OUTSIDE);
            due.is("signs", x.told(13), taken ? 1 : 0);
            due.is("the sign", x.told(400), taken ? sign : OUTSIDE);
        }
    }

    /** "It is 0, 1, 2, or 4, b, e and a figure, p, x, the letter of a SHAPE of a lesser number, (, or [" */
    private static void everySignAlone() {
        for (int s = 0; s < 8; s++) {
            Watched x = new Watched();
            for (char c = 33; c <= 126; c++) {
                int want = 0;
                if ("0124bpx".indexOf(c) >= 0 || c >= 'A' && c < 'A' + s) want = NONE;
                if ("e([".indexOf(c) >= 0) want = 1;
                x.tell(s, String.valueOf(c));
                due.is("fault of " + c + " as SHAPE " + s, x.fault(s), want);
            }
        }
        for (char c = 33; c <= 126; c++) {
            boolean begins = "0124bpxe([".indexOf(c) >= 0;
            faultIs("(" + c, begins ? 2 : 1);
            faultIs("[" + c, begins ? 2 : 1);
            faultIs("(1" + c, c == ')' ? NONE : begins ? 3 : 2);
            faultIs("[1" + c, c == ']' ? NONE : begins ? 3 : 2);
        }
    }

    /** "the letter of a SHAPE of a lesser number, and, if that is OPEN, a TERM behind it" */
    private static void lettersOfLesserNumbers() {
        for (int s = 0; s < 8; s++) {
            for (int letter = 0; letter < 9; letter++) {
                boolean lesser = letter < s;
                String text = "(" + (char) ('A' + letter);
                Watched x = new Watched();
                if (letter < 8) x.tell(letter, "1");
                due.is("fault of " + text + ") as SHAPE " + s, x.tell(s, text + ")").fault(s), lesser ? NONE : 1);
                due.is("fault of " + text + "1) as SHAPE " + s, x.tell(s, text + "1)").fault(s), lesser ? NONE : 1);
                if (letter < 8) x.tell(letter, "x");
                due.is("OPEN: fault of " + text + ") as SHAPE " + s, x.tell(s, text + ")").fault(s), lesser ? 2 : 1);
                due.is("OPEN: fault of " + text + "1) as SHAPE " + s, x.tell(s, text + "1)").fault(s), lesser ? NONE : 1);
                due.is("OPEN: fault of " + text + " as SHAPE " + s, x.tell(s, text).fault(s), lesser ? 2 : 1);
            }
        }
        Watched x = Watched.shapes("x", "A", "AA", "AA1", "A(A[Ax])");
        due.is("one more must come", x.fault(1), 1);
        due.is("one more must come behind two", x.fault(2), 2);
        due.is("behind two", x.fault(3), NONE);
        due.is("each has one", x.fault(4), NONE);
        due.is("OPEN by the x behind a letter", x.told(24), 1);
    }

    /** "e and a figure 2 to 9 (a CHOICE of so many)" */
    private static void choicesOfTwoToNine() {
        for (char c = 33; c <= 126; c++) {
            boolean figure = c >= '2' && c <= '9';
            faultIs("e" + c, figure ? NONE : 1);
            faultIs("[e" + c + "]", figure ? NONE : 2);
            faultIs("e2" + c, 2);
            if (figure) due.is("layout of e" + c, Watched.shapes("e" + c).layout(0, -1, 4), c - '0');
        }
    }

    /** "( and one to six TERMS and ), or [ and one to six TERMS and ]" */
    private static void oneToSixTerms() {
        for (String brackets : new String[] {"()", "[]"}) {
            char open = brackets.charAt(0);
            char close = brackets.charAt(1);
            String other = brackets.equals("()") ? "]" : ")";
            faultIs(brackets, 1);
            faultIs(open + other, 1);
            for (String term : new String[] {"1", "e2", "(1)", "[bp]"}) {
                int length = term.length();
                for (int n = 1; n <= 6; n++) {
                    faultIs(open + term.repeat(n) + close, NONE);
                    faultIs(open + term.repeat(n), 1 + n * length);
                    faultIs(open + term.repeat(n) + other, 1 + n * length);
                    faultIs(open + term.repeat(n) + close + close, 2 + n * length);
                }
                faultIs(open + term.repeat(7) + close, 1 + 6 * length);
                faultIs(open + term.repeat(7), 1 + 6 * length);
                faultIs(open + ("" + open + close) + close, 2);
                faultIs("(" + open + term.repeat(6) + close + "11111)", NONE);
                faultIs("(" + open + term.repeat(6) + close + "111111)", 1 + 6 * length + 2 + 5);
                faultIs("(11111" + open + term.repeat(6) + close + ")", NONE);
                faultIs("(111111" + open + term.repeat(6) + close + ")", 7);
            }
        }
    }

    /** The TERM behind a letter belongs to the letter, and is none of the six. */
    private static void sixTermsByLetters() {
        Watched x = Watched.shapes("x", "1", "(A1A1A1A1A1A1)", "(A1A1A1A1A1A11)", "(BBBBBB)", "(BBBBBBB)", "(AA1AABAAAb111)",
            "(AA1AABAAAb1111)");
        due.is("six with a TERM each", x.fault(2), NONE);
        due.is("a seventh", x.fault(3), 13);
        due.is("six letters", x.fault(4), NONE);
        due.is("a seventh letter", x.fault(5), 7);
        due.is("six", x.fault(6), NONE);
        due.is("a seventh", x.fault(7), 14);
        due.is("six are laid", x.layout(2, -1, 0), 6);
        due.is("six are laid", x.layout(6, -1, 0), 6);
    }

    /** "THE FAULT: the place of the first sign that can not stand there (also behind the end of the TERM)" */
    private static void behindTheEnd() {
        for (String whole : new String[] {"0", "1", "2", "4", "b", "p", "x", "e9", "(1)", "[1]", "(e2)", "((1)[1])"}) {
            for (String more : new String[] {"0", "1", "e", "x", ")", "]", "(", "!", "A", "1)"}) faultIs(whole + more, whole.length());
        }
        Watched x = Watched.shapes("x", "1", "A11", "B1", "BA", "AB1", "A(A1)x", "AAe2)");
        int[] faults = {NONE, NONE, 2, 1, 1, 2, 5, 4};
        for (int s = 0; s < 8; s++) due.is("fault of SHAPE " + s, x.fault(s), faults[s]);
        faultIs("(3(", 1);
        faultIs("((1]3", 3);
    }

    /** "or the number of signs, if more must come" */
    private static void moreMustCome() {
        for (String text : new String[] {"", "e", "(", "[", "(1", "[1", "((1)", "([1]", "(e", "(e2", "((((", "(111111", "[([([1])"}) {
            faultIs(text, text.length());
        }
        Watched x = Watched.shapes("x", "A", "AA", "(A", "(A1", "A(", "Ae", "A(A)");
        int[] faults = {NONE, 1, 2, 2, 3, 2, 2, 3};
        for (int s = 0; s < 8; s++) due.is("fault of SHAPE " + s, x.fault(s), faults[s]);
        String whole = "([1](0x)e2[e9])";
        for (int n = 0; n < whole.length(); n++) faultIs(whole.substring(0, n), n);
        faultIs(whole, NONE);
    }

    /** Forty signs, the last of which ends the TERM, can not stand, or is not the last that must come. */
    private static void fortySignsDeep() {
        faultIs("(".repeat(40), 40);
        faultIs("[".repeat(40), 40);
        faultIs("(".repeat(39) + "1", 40);
        faultIs("(".repeat(39) + ")", 39);
        faultIs("(".repeat(20) + ")".repeat(20), 20);
        faultIs("(".repeat(19) + "e2" + ")".repeat(19), NONE);
        faultIs("[".repeat(19) + "11" + "]".repeat(19), NONE);
        faultIs("(".repeat(19) + "11" + ")".repeat(18) + "]", 39);
        faultIs("(".repeat(18) + "11" + ")".repeat(18) + "11", 38);
        faultIs("(".repeat(19) + "1" + ")".repeat(19) + "1", 39);
        faultIs("1".repeat(40), 1);
        Watched x = Watched.shapes("x", "A".repeat(40), "A".repeat(39) + "1", "A".repeat(38) + "11", "A".repeat(39) + "C");
        due.is("forty letters", x.fault(1), 40);
        due.is("39 letters and a TERM", x.fault(2), NONE);
        due.is("its SIZE", x.layout(2, -1, 0), 1);
        due.is("behind the TERM", x.fault(3), 39);
        due.is("a letter at the end", x.fault(4), NONE);
        Watched y = Watched.shapes("(".repeat(19) + "11" + ")".repeat(19));
        due.is("19 RECORDS in one another", y.layout(0, -1, 6), 21);
        due.is("their SIZE", y.layout(0, -1, 0), 2);
    }

    /** "A SHAPE is OPEN, if there is an x in its text." */
    private static void openByItsText() {
        for (int p = 0; p < 40; p++) {
            Watched x = Watched.shapes("1".repeat(p));
            due.is("without an x", x.told(20), 0);
            due.is("an x at " + p, x.say(0, 'x'), p + 1);
            due.is("OPEN", x.told(20), 1);
            due.is("asked with none", x.layout(0, -1, 0), UNKNOWN);
        }
        Watched x = Watched.shapes("x", "A1", "(Ax)", "X", "!x");
        due.is("not by a letter", x.told(21), 0);
        due.is("asked with none", x.layout(1, -1, 0), 1);
        due.is("by its own", x.told(22), 1);
        due.is("no X", x.told(23), 0);
        due.is("also with a FAULT", x.told(24), 1);
        due.is("with a FAULT, asked with none", x.layout(4, -1, 0), UNKNOWN);
        due.is("with a FAULT, asked with one", x.layout(4, 1, 0), NO);
    }

    /** "A SHAPE is asked with another one, u: -1, if it is not OPEN; else the number of one that is not OPEN" */
    private static void askedWithAnother() {
        Watched x = Watched.shapes("1", "2", "4", "x", "b", "(xx)", "p", "e2");
        for (int s = 0; s < 8; s++) {
            boolean open = s == 3 || s == 5;
            for (int u = -2; u <= 8; u++) {
                boolean other = u >= 0 && u < 8 && u != 3 && u != 5;
                int got = x.layout(s, u, 6);
                if (open && other) due.is("PARTS of " + s + " with " + u, got, s == 3 ? 1 : 3);
                else if (!open && u == -1) due.is("PARTS of " + s, got, 1);
                else due.is("PARTS of " + s + " with " + u, got, UNKNOWN);
            }
        }
    }

    /** "It is WELL, if it has no FAULT, nor any SHAPE whose letter is in its text, nor u, nor these, and so on." */
    private static void wellWithAllItsLetters() {
        Watched x = Watched.shapes("1", "A", "B", "C", "D", "E", "F", "G");
        for (int s = 0; s < 8; s++) due.is("WELL, of letters upon letters, " + s, x.layout(s, -1, 0), 1);
        for (String spoilt : new String[] {"", "(1", "11"}) {
            for (int f = 0; f < 8; f++) {
                Watched y = Watched.shapes("1", "A", "B", "C", "D", "E", "F", "G").tell(f, spoilt);
                for (int s = 0; s < 8; s++) due.is("with a FAULT in " + f + ", " + s, y.layout(s, -1, 0), s < f ? 1 : NO);
            }
        }
        Watched y = Watched.shapes("(1", "A", "x", "[0x]", "1", "Cx", "(4DB)");
        due.is("u has a FAULT", y.layout(2, 0, 0), NO);
        due.is("a letter of u has a FAULT", y.layout(2, 1, 0), NO);
        due.is("neither has", y.layout(2, 4, 0), 1);
        due.is("a letter with one of a letter of u", y.layout(5, 1, 0), NO);
        due.is("neither has", y.layout(5, 4, 0), 1);
        due.is("a letter in a TERM behind a letter", y.layout(6, -1, 0), NO);
        y.say(0, ')');
        due.is("u has no FAULT more", y.layout(2, 0, 0), 1);
        due.is("a letter of u has none more", y.layout(2, 1, 0), 1);
        due.is("all is WELL", y.layout(5, 1, 0), 1);
        // "4DB": D is OPEN, so that the TERM behind it is B: [0(1)] is TAGGED
        due.is("all is WELL", y.layout(6, -1, 0), 8);
        due.is("that is not asked for may have a FAULT", y.tell(7, "(").layout(6, -1, 0), 8);
    }

    // ---- promises 1, 3, 5, 22

    /** Promise 1: "No sign is said, all bytes are 0." */
    private static void aNewObject() {
        Watched x = new Watched();
        for (int s = 0; s < 8; s++) {
            due.is("signs", x.told(10 + s), 0);
            due.is("OPEN", x.told(20 + s), 0);
            due.is("a sign", x.told(100 * s + 100), OUTSIDE);
            due.is("fault: more must come", x.fault(s), 0);
            due.is("layout", x.layout(s, -1, 0), NO);
            due.is("layout with u", x.layout(s, (s + 1) % 8, 0), UNKNOWN);
            due.is("wipe", x.wipe(s), 0);
        }
        for (int p = 0; p < 96; p++) due.is("byte " + p, x.peek(p), 0);
        due.is("the WAY", x.told(0), 0);
        due.is("numbers", x.told(1), 0);
        due.is("numbers", x.given(-1), 0);
        due.is("no number", x.given(0), NONE);
        due.is("drop", x.drop(), 0);
        due.is("IMAGE 0", x.restore(0), STATE);
        due.is("IMAGE 1", x.restore(1), STATE);
    }

    /** Promise 3: "Signs of a SHAPE go: how many there were." */
    private static void wipe() {
        for (int n : new int[] {0, 1, 39, 40}) {
            Watched x = new Watched();
            for (int i = 0; i < n; i++) x.say(5, 'x');
            x.say(4, '1');
            x.say(6, "12");
            due.is("wipe", x.wipe(5), n);
            due.is("signs", x.told(15), 0);
            due.is("no sign", x.told(600), OUTSIDE);
            due.is("not OPEN", x.told(25), 0);
            due.is("fault", x.fault(5), 0);
            due.is("the one before", x.told(14), 1);
            due.is("the one behind", x.told(16), 2);
            due.is("wipe again", x.wipe(5), 0);
        }
    }

    /** Promise 5: "The WAY: which it was." */
    private static void way() {
        Watched x = new Watched();
        int[] ways = {0, 1, 1, 0, 0, 1};
        int was = 0;
        for (int w : ways) {
            due.is("way(" + w + ")", x.way(w), was);
            due.is("told(0)", x.told(0), w);
            was = w;
        }
        due.is("way(2)", x.way(2), OUTSIDE);
        due.is("way(-1)", x.way(-1), OUTSIDE);
        due.is("told(0)", x.told(0), 1);
    }

    /** Promise 22: the numbers that are taken, each, and all between. */
    private static void told() {
        for (int from = -20; from < 1000; from += 300) {
            Watched x = Watched.shapes("x", "12", "", "1x1", "4444", "bbbbb", "pppppp", "1".repeat(40));
            x.give(7);
            x.give(8);
            x.way(1);
            int[] signs = {1, 2, 0, 3, 4, 5, 6, 40};
            for (int what = from; what < from + 300; what++) {
                int want = OUTSIDE;
                if (what == 0) want = 1;
                if (what == 1) want = 2;
                if (what >= 10 && what <= 17) want = signs[what - 10];
                if (what >= 20 && what <= 27) want = what == 20 || what == 23 ? 1 : 0;
                if (what >= 100 && what < 900 && what % 100 < signs[what / 100 - 1]) {
                    String[] texts = {"x", "12", "", "1x1", "4444", "bbbbb", "pppppp", "1".repeat(40)};
                    want = texts[what / 100 - 1].charAt(what % 100);
                }
                due.is("told(" + what + ")", x.told(what), want);
            }
        }
    }
}
