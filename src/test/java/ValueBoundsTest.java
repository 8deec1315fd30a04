/** The sentences of the document's third terms, and of promises 12 to 21, that name a bound: a test each. */
final class ValueBoundsTest {
    private static final int OUTSIDE = -2, STATE = -3, FULL = -4, NONE = -6;
    private static final long MOST = 4294967295L;
    private static final Due due = new Due("ValueBoundsTest");

    public static void main(String[] args) {
        numbersOfTheList();
        sixtyNumbers();
        drop();
        given();
        valuesOfPlainTerms();
        leastByteFirst();
        valuesOfRecords();
        valuesOfVariants();
        sizeIsZeroFirst();
        placesOfAnAlign();
        placesOfSizeNothing();
        patternInTheGap();
        byteInFront();
        nestedPatterns();
        listOfAnotherLength();
        readPlain();
        readHidden();
        readTagged();
        readOfNoValue();
        readOfSixty();
        which();
        bytesOfMemory();
        images();
        imagesKeepAll();
        due.end();
    }

    private static void listIs(String what, Watched x, long... numbers) {
        due.is(what + ": numbers", x.told(1), numbers.length);
        for (int i = 0; i < numbers.length; i++) due.is(what + ": number " + i, x.given(i), numbers[i]);
    }

    private static void bytesAre(String what, Watched x, int place, int... bytes) {
        for (int i = 0; i < bytes.length; i++) due.is(what + ": byte " + (place + i), x.peek(place + i), bytes[i]);
    }

    // ---- promises 12 to 14

    /** Promise 12: "OUTSIDE: 0 to 4294967295" */
    private static void numbersOfTheList() {
        long[] taken = {0, 1, 255, 256, 65535, 65536, 2147483647L, 2147483648L, MOST - 1, MOST};
        long[] refused = {-1, -2, -MOST, MOST + 1, MOST + 2, 2 * MOST + 1, 1L << 40, Long.MIN_VALUE, Long.MAX_VALUE};
        Watched x = new Watched();
        for (int i = 0; i < taken.length; i++) due.is("give(" + taken[i] + ")", x.give(taken[i]), i + 1);
        for (long n : refused) due.is("give(" + n + ")", x.give(n), OUTSIDE);
        listIs("what was taken", x, taken);
    }

    /** "VALUES lie in a LIST of up to 60 numbers." */
    private static void sixtyNumbers() {
        Watched x = new Watched();
        for (int n = 1; n <= 60; n++) due.is("number " + n, x.give(n * 7), n);
        due.is("the 61st", x.give(0), FULL);
        due.is("the 61st", x.give(MOST), FULL);
        due.is("the 61st, OUTSIDE first", x.give(MOST + 1), OUTSIDE);
        due.is("the 61st, OUTSIDE first", x.give(-1), OUTSIDE);
        due.is("numbers", x.given(-1), 60);
        due.is("numbers", x.told(1), 60);
        for (int i = 0; i < 60; i++) due.is("number " + i, x.given(i), (i + 1) * 7);
        due.is("no 61st", x.given(60), NONE);
        due.is("drop", x.drop(), 60);
        due.is("room again", x.give(5), 1);
    }

    /** Promise 13: "The LIST is empty: how many there were." */
    private static void drop() {
        for (int n : new int[] {0, 1, 59, 60}) {
            Watched x = new Watched();
            for (int i = 0; i < n; i++) x.give(9);
            due.is("drop", x.drop(), n);
            due.is("none", x.given(-1), 0);
            due.is("none", x.given(0), NONE);
            due.is("drop again", x.drop(), 0);
        }
    }

    /** Promise 14: "How many there are (i = -1), the i-th; NONE." */
    private static void given() {
        for (int n : new int[] {0, 1, 2, 59, 60}) {
            Watched x = new Watched();
            for (int i = 0; i < n; i++) x.give(100 + i);
            due.is("how many", x.given(-1), n);
            for (int i = 0; i < 62; i++) due.is("given(" + i + ") of " + n, x.given(i), i < n ? 100 + i : NONE);
            for (int i : new int[] {-2, -3, Integer.MIN_VALUE, Integer.MAX_VALUE}) due.is("given(" + i + ")", x.given(i), NONE);
        }
        due.is("a number that is NONE's is none", new Watched().list(MOST - 5).given(0), MOST - 5);
    }

    // ---- values

    private static void valueIs(String text, boolean fits, long... numbers) {
        Watched x = Watched.shapes(text);
        x.fill(77);
        x.list(numbers);
        int size = x.layout(0, -1, 0);
        due.is("write of " + text, x.write(0, -1, 48), fits ? size : STATE);
        listIs("the LIST stays", x, numbers);
        if (!fits) {
            for (int p = 0; p < 96; p++) due.is("nothing changed at " + p, x.peek(p), 77);
            return;
        }
        x.drop();
        due.is("read of " + text, x.read(0, -1, 48), numbers.length);
        listIs("read of " + text, x, numbers);
    }

    /** "a NUMBER, one that has room in its bytes; a TRUTH 0 or 1; a CHOICE of n 0 to n less 1; a PLACE 1 and on" */
    private static void valuesOfPlainTerms() {
        String[] texts = {"1", "2", "4", "b", "p", "e2", "e3", "e4", "e5", "e6", "e7", "e8", "e9"};
        long[] greatest = {255, 65535, MOST, 1, MOST, 1, 2, 3, 4, 5, 6, 7, 8};
        for (int i = 0; i < texts.length; i++) {
            long least = texts[i].equals("p") ? 1 : 0;
            for (String text : new String[] {texts[i], "(" + texts[i] + ")"}) {
                valueIs(text, true, least);
                valueIs(text, true, least + 1);
                valueIs(text, true, greatest[i]);
                valueIs(text, true, greatest[i] - 1 < least ? least : greatest[i] - 1);
                if (least > 0) valueIs(text, false, least - 1);
                if (greatest[i] < MOST) {
                    valueIs(text, false, greatest[i] + 1);
                    valueIs(text, false, MOST);
                    valueIs(text, false, greatest[i] + 256);
                    valueIs(text, false, greatest[i] + 65536);
                }
            }
        }
        valueIs("0", true);
        valueIs("0", false, 0);
    }

    /** "each number lies, the least byte first, where it is told" */
    private static void leastByteFirst() {
        Watched x = Watched.shapes("(124p)", "2", "4", "p", "1");
        x.list(0x11, 0x3322, 0x77665544L, 0xFFEEDD88L);
        due.is("write", x.write(0, -1, 4), 12);
        bytesAre("numbers", x, 3, 0, 0x11, 0, 0x22, 0x33, 0x44, 0x55, 0x66, 0x77, 0x88, 0xDD, 0xEE, 0xFF, 0);
        for (int k = 0; k < 4; k++) {
            x.bytes(40, 0, 0, 0, 0, 0).poke(40 + k, 255);
            due.is("read", x.read(2, -1, 40), 1);
            listIs("by byte " + k, x, 255L << (8 * k));
            due.is("read of a PLACE", x.read(3, -1, 40), 1);
            listIs("by byte " + k, x, 255L << (8 * k));
            x.bytes(60, 7, 7, 7, 7, 7);
            due.is("write", x.write(2, -1, 60), 4);
            for (int p = 0; p < 5; p++) due.is("byte " + p, x.peek(60 + p), p == k ? 255 : p == 4 ? 7 : 0);
        }
        x.bytes(50, 1, 2);
        x.read(1, -1, 50);
        listIs("of two bytes", x, 513);
        x.read(4, -1, 51);
        listIs("of one byte", x, 2);
    }

    /** "a RECORD has VALUES of all its fields, as told" */
    private static void valuesOfRecords() {
        for (int n = 1; n <= 6; n++) {
            long[] numbers = new long[n];
            for (int i = 0; i < n; i++) numbers[i] = 200 + i;
            String text = "(" + "1".repeat(n) + ")";
            valueIs(text, true, numbers);
            valueIs(text, false, java.util.Arrays.copyOf(numbers, n - 1));
            valueIs(text, false, java.util.Arrays.copyOf(numbers, n + 1));
            numbers[n - 1] = 256;
            valueIs(text, false, numbers);
        }
        valueIs("(000000)", true);
        valueIs("(000000)", false, 0);
        valueIs("(010)", true, 255);
        valueIs("(1(2(4)))", true, 255, 65535, MOST);
        valueIs("(1(2(4)))", false, 255, 65536, MOST);
        Watched x = Watched.shapes("(124)");
        x.way(1);
        x.list(1, 2, 3);
        due.is("packed", x.write(0, -1, 0), 8);
        bytesAre("packed", x, 0, 3, 0, 0, 0, 2, 0, 1, 0);
        x.drop();
        x.read(0, -1, 0);
        listIs("as told, packed", x, 1, 2, 3);
    }

    /** "a VARIANT the number of the TERM (also of one alone), and its VALUE" */
    private static void valuesOfVariants() {
        for (String plain : new String[] {"0", "1"}) {
            for (int n = 1; n <= 6; n++) {
                String[] texts = {"[" + plain.repeat(n) + "]", "[" + plain.repeat(n - 1) + (n > 1 ? "(1b)" : plain) + "]"};
                for (String text : texts) {
                    for (int i = 0; i < n - 1; i++) {
                        if (plain.equals("0")) valueIs(text, true, i);
                        else valueIs(text, true, i, 9);
                        valueIs(text, false, i, 256);
                    }
                    valueIs(text, false, n);
                    valueIs(text, false, n, 9);
                    valueIs(text, false, MOST, 9);
                    valueIs(text, false);
                }
            }
        }
        valueIs("[4]", true, 0, MOST);
        valueIs("[4]", false, MOST);
        valueIs("[4]", false, 1, 5);
        valueIs("[0]", true, 0);
        valueIs("[0]", false);
        valueIs("[0]", false, 1);
        valueIs("[[[1]]]", true, 0, 0, 0, 255);
        valueIs("[[[1]]]", false, 0, 0, 255);
        valueIs("[0(1b)]", true, 1, 255, 1);
        valueIs("[0(1b)]", false, 1, 255, 2);
        valueIs("[0(1b)]", false, 0, 255, 1);
        valueIs("[0p]", true, 0);
        valueIs("[0p]", true, 1, 1);
        valueIs("[0p]", false, 1, 0);
        valueIs("[0p]", false, 0, 0);
        valueIs("(1[0b]1)", true, 7, 0, 8);
        valueIs("(1[0b]1)", true, 7, 1, 1, 8);
        valueIs("(1[0b]1)", false, 7, 1, 8);
    }

    /** "all bytes of its SIZE are 0 first" */
    private static void sizeIsZeroFirst() {
        Watched x = Watched.shapes("(14)", "[0(44)]", "[0(4b)]", "[00]", "(0)", "[4]", "(4444)", "(GGGG)");
        x.fill(255);
        x.list(1, 2);
        due.is("8 bytes", x.write(0, -1, 8), 8);
        bytesAre("between fields", x, 7, 255, 1, 0, 0, 0, 2, 0, 0, 0, 255);
        x.list(0);
        due.is("12 bytes", x.write(1, -1, 20), 12);
        bytesAre("TAGGED", x, 19, 255, 0, 0, 0, 0, 0, 0, 0, 0, 0, 0, 0, 0, 255);
        due.is("8 bytes", x.write(2, -1, 40), 8);
        bytesAre("HIDDEN", x, 39, 255, 0, 0, 0, 0, 2, 0, 0, 0, 255);
        due.is("1 byte", x.write(3, -1, 55), 1);
        bytesAre("a tag alone", x, 54, 255, 0, 255);
        x.drop();
        due.is("no byte", x.write(4, -1, 56), 0);
        bytesAre("no byte", x, 55, 0, 255, 255);
        for (int i = 0; i < 16; i++) x.give(MOST);
        due.is("64 bytes", x.write(7, -1, 16), 64);
        bytesAre("before", x, 15, 0);
        bytesAre("behind", x, 80, 255);
        x.drop();
        for (int i = 0; i < 16; i++) x.give(0);
        due.is("64 bytes", x.write(7, -1, 32), 64);
        for (int p = 30; p < 96; p++) due.is("byte " + p, x.peek(p), p < 32 ? 255 : 0);
    }

    // ---- promises 15 to 17: the place

    /** "OUTSIDE: its ALIGN does not divide the place, or it is not all within" */
    private static void placesOfAnAlign() {
        String[] texts = {"1", "2", "4", "(1111)", "(21)", "(12)", "(14)", "((4444)(4444)(4444)(4444))", "(4444)", "[1]", "[12]", "[0(4b)]"};
        int[] sizes = {1, 2, 4, 4, 4, 4, 8, 64, 16, 1, 4, 8};
        int[] aligns = {1, 2, 4, 1, 2, 2, 4, 4, 4, 1, 2, 4};
        int[] numbers = {1, 1, 1, 4, 2, 2, 2, 16, 4, 2, 2, 1};
        for (int i = 0; i < texts.length; i++) {
            Watched x = Watched.shapes(texts[i]);
            for (int n = 0; n < numbers[i]; n++) x.give(0);
            boolean variant = texts[i].charAt(0) == '[';
            for (int place = -5; place <= 100; place++) {
                boolean within = place >= 0 && place + sizes[i] <= 96 && place % aligns[i] == 0;
                String at = " of " + texts[i] + " at " + place;
                due.is("write" + at, x.write(0, -1, place), within ? sizes[i] : OUTSIDE);
                due.is("read" + at, x.read(0, -1, place), within ? numbers[i] : OUTSIDE);
                due.is("which" + at, x.which(0, -1, place), !within ? OUTSIDE : variant ? 0 : NONE);
            }
            for (int place : new int[] {Integer.MIN_VALUE, Integer.MAX_VALUE, Integer.MAX_VALUE - 3, 256, 65536, 1 << 30}) {
                due.is("write at " + place, x.write(0, -1, place), OUTSIDE);
                due.is("read at " + place, x.read(0, -1, place), OUTSIDE);
                due.is("which at " + place, x.which(0, -1, place), OUTSIDE);
            }
        }
    }

    /** "(with SIZE 0 the place may be 96, too)" */
    private static void placesOfSizeNothing() {
        for (String text : new String[] {"0", "(0)", "(000000)"}) {
            Watched x = Watched.shapes(text);
            for (int place = -2; place <= 98; place++) {
                boolean within = place >= 0 && place <= 96;
                due.is("write at " + place, x.write(0, -1, place), within ? 0 : OUTSIDE);
                due.is("read at " + place, x.read(0, -1, place), within ? 0 : OUTSIDE);
                due.is("which at " + place, x.which(0, -1, place), within ? NONE : OUTSIDE);
            }
            x.give(0);
            due.is("no VALUE at 96", x.write(0, -1, 96), STATE);
            due.is("no VALUE at 97, OUTSIDE first", x.write(0, -1, 97), OUTSIDE);
        }
        Watched y = Watched.shapes("[0]");
        y.give(0);
        due.is("a VARIANT of NOTHING at 96", y.write(0, -1, 96), 0);
        due.is("its TERM", y.which(0, -1, 96), 0);
        due.is("read at 96", y.read(0, -1, 96), 1);
        listIs("its number", y, 0);
        due.is("at 97", y.which(0, -1, 97), OUTSIDE);
    }

    // ---- WRITTEN

    /** "a PATTERN in the GAP of the HOST, if it is HIDDEN and not the HOST" */
    private static void patternInTheGap() {
        for (int host = 0; host < 6; host++) {
            String text = "[" + "0".repeat(host) + "(1e9)" + "0".repeat(5 - host) + "]";
            int next = 9;
            for (int i = 0; i < 6; i++) {
                Watched x = Watched.shapes(text);
                x.fill(255);
                if (i == host) x.list(i, 200, 8);
                else x.list(i);
                due.is("write of " + i, x.write(0, -1, 10), 2);
                bytesAre("TERM " + i + " of " + text, x, 9, 255, i == host ? 200 : 0, i == host ? 8 : next, 255);
                due.is("which", x.which(0, -1, 10), i);
                if (i != host) next++;
            }
        }
        Watched x = Watched.shapes("[0(4p)]", "[2(be3(1)2)1]", "[(11)(11b)]");
        x.fill(255);
        x.list(0);
        due.is("a PLACE's PATTERN", x.write(0, -1, 8), 8);
        bytesAre("a PLACE's PATTERN", x, 7, 255, 0, 0, 0, 0, 0, 0, 0, 0, 255);
        x.list(1, MOST, 1);
        due.is("a PLACE", x.write(0, -1, 8), 8);
        bytesAre("a PLACE", x, 7, 255, 255, 255, 255, 255, 1, 0, 0, 0, 255);
        x.list(0, 0x0708);
        due.is("behind the GAP", x.write(1, -1, 20), 6);
        bytesAre("behind the GAP", x, 19, 255, 2, 0, 8, 7, 0, 0, 255);
        x.list(2, 9);
        due.is("behind the GAP, ALIGN 1", x.write(1, -1, 20), 6);
        bytesAre("behind the GAP, ALIGN 1", x, 19, 255, 3, 9, 0, 0, 0, 0, 255);
        x.list(0, 5, 6);
        due.is("before the GAP", x.write(2, -1, 30), 3);
        bytesAre("before the GAP", x, 29, 255, 5, 6, 2, 255);
        x.list(1, 5, 6, 0);
        due.is("the HOST", x.write(2, -1, 30), 3);
        bytesAre("the HOST", x, 29, 255, 5, 6, 0, 255);
    }

    /** "the byte in front, if it is TAGGED" */
    private static void byteInFront() {
        for (int n = 2; n <= 6; n++) {
            for (int i = 0; i < n; i++) {
                Watched x = Watched.shapes("[" + "2".repeat(n) + "]");
                x.fill(255);
                x.list(i, 0x0201);
                due.is("write", x.write(0, -1, 10), 4);
                bytesAre("TAGGED " + i + " of " + n, x, 9, 255, i, 0, 1, 2, 255);
            }
        }
        Watched x = Watched.shapes("[124p0(1)]");
        int[][] bytes = {{0, 9, 0, 0, 0, 0, 0, 0}, {1, 0, 9, 0, 0, 0, 0, 0}, {2, 0, 0, 0, 9, 0, 0, 0}, {3, 0, 0, 0, 9, 0, 0, 0},
            {4, 0, 0, 0, 0, 0, 0, 0}, {5, 9, 0, 0, 0, 0, 0, 0}};
        for (int i = 0; i < 6; i++) {
            if (i == 4) x.list(i);
            else x.list(i, 9);
            due.is("write", x.write(0, -1, 8), 8);
            bytesAre("TAGGED " + i, x, 8, bytes[i]);
        }
    }

    /** VARIANTS in one another: all of their PATTERNS and bytes in front lie in one byte, and none is another's. */
    private static void nestedPatterns() {
        Watched x = Watched.shapes("[0b]", "[A0]", "[0B0]", "[CC]", "[0D]");
        long[][] values = {{0}, {2}, {1, 1}, {1, 0, 0}, {1, 0, 1, 0}, {1, 0, 1, 1}};
        int[] bytes = {4, 5, 3, 2, 0, 1};
        for (int i = 0; i < values.length; i++) {
            x.list(values[i]);
            due.is("write", x.write(2, -1, 5), 1);
            bytesAre("one in another " + i, x, 5, bytes[i]);
            x.drop();
            due.is("which", x.which(2, -1, 5), values[i][0]);
            due.is("read", x.read(2, -1, 5), values[i].length);
            listIs("one in another " + i, x, values[i]);
        }
        x.list(1, 1, 0);
        due.is("TAGGED around", x.write(3, -1, 0), STATE);
        x.list(1, 0);
        due.is("TAGGED around", x.write(3, -1, 0), 2);
        bytesAre("TAGGED around", x, 0, 1, 4);
        x.list(0);
        due.is("HIDDEN in the tag", x.write(4, -1, 0), 2);
        bytesAre("HIDDEN in the tag", x, 0, 2, 0);
        x.list(1, 1, 2);
        due.is("the HOST with its tag", x.write(4, -1, 0), 2);
        bytesAre("the HOST with its tag", x, 0, 1, 5);
        x.poke(0, 3);
        due.is("no tag of the HOST", x.which(4, -1, 0), 1);
        due.is("no tag of the HOST", x.read(4, -1, 0), STATE);
    }

    /** Promise 15: "STATE: it is no VALUE of it": a number too few, a number too many, up to 60. */
    private static void listOfAnotherLength() {
        Watched x = Watched.shapes("(111111)", "(AAAAAA)", "(BAAAA)", "(BAAA(11111))", "(C1)");
        x.fill(5);
        for (int n = 0; n < 59; n++) x.give(1);
        due.is("59 for 60", x.write(2, -1, 0), STATE);
        due.is("59 for 59", x.write(3, -1, 0), 59);
        x.give(2);
        due.is("60 for 59", x.write(3, -1, 0), STATE);
        due.is("60 for 61", x.write(4, -1, 0), STATE);
        due.is("nothing changed", x.peek(59), 5);
        due.is("60 for 60", x.write(2, -1, 0), 60);
        due.is("the last", x.peek(59), 2);
        due.is("behind", x.peek(60), 5);
        due.is("read of 60", x.read(2, -1, 0), 60);
    }

    // ---- READ

    /** "READ: the other way about" of each byte there can be */
    private static void readPlain() {
        String[] texts = {"b", "e2", "e3", "e4", "e5", "e6", "e7", "e8", "e9", "1"};
        int[] counts = {2, 2, 3, 4, 5, 6, 7, 8, 9, 256};
        for (int i = 0; i < texts.length; i++) {
            for (int from = 0; from < 256; from += 64) {
                Watched x = Watched.shapes(texts[i]);
                x.give(MOST);
                for (int v = from; v < from + 64; v++) {
                    x.poke(95, v);
                    boolean value = v < counts[i];
                    long before = x.given(0);
                    due.is("read of " + v + " as " + texts[i], x.read(0, -1, 95), value ? 1 : STATE);
                    due.is("what is READ", x.given(0), value ? v : before);
                }
            }
        }
        Watched x = Watched.shapes("p", "[0p]");
        x.list(8, 9);
        due.is("a PLACE of 0", x.read(0, -1, 92), STATE);
        listIs("not READ", x, 8, 9);
        due.is("HIDDEN, of 0", x.read(1, -1, 92), 1);
        for (int k = 0; k < 4; k++) {
            x.bytes(92, 0, 0, 0, 0).poke(92 + k, 1);
            due.is("a PLACE", x.read(0, -1, 92), 1);
            listIs("a PLACE", x, 1L << (8 * k));
            due.is("HIDDEN", x.read(1, -1, 92), 2);
            listIs("HIDDEN", x, 1, 1L << (8 * k));
            due.is("which", x.which(1, -1, 92), 1);
        }
    }

    /** "of a HIDDEN one it is that whose PATTERN lies in the GAP, else the HOST" */
    private static void readHidden() {
        for (int v = 0; v < 256; v++) {
            Watched x = Watched.shapes("[00e70]", "[1(1b)1]");
            x.bytes(94, 40, v);
            int lies = v == 7 ? 0 : v == 8 ? 1 : v == 9 ? 3 : 2;
            due.is("which by " + v, x.which(0, -1, 95), lies);
            boolean value = v <= 9;
            x.give(MOST);
            due.is("read by " + v, x.read(0, -1, 95), value ? lies == 2 ? 2 : 1 : STATE);
            if (!value) listIs("not READ", x, MOST);
            else if (lies == 2) listIs("the HOST by " + v, x, 2, v);
            else listIs("another by " + v, x, lies);
            lies = v == 2 ? 0 : v == 3 ? 2 : 1;
            due.is("which by " + v, x.which(1, -1, 94), lies);
            x.list(MOST);
            due.is("read by " + v, x.read(1, -1, 94), v > 3 ? STATE : lies == 1 ? 3 : 2);
            if (v > 3) listIs("not READ", x, MOST);
            else if (lies == 1) listIs("the HOST by " + v, x, 1, 40, v);
            else listIs("another by " + v, x, lies, 40);
        }
    }

    /** "STATE: the byte in front is none" */
    private static void readTagged() {
        for (int n = 2; n <= 6; n++) {
            for (int v = 0; v < 256; v++) {
                Watched x = Watched.shapes("[" + "1".repeat(n) + "]");
                x.bytes(94, v, 30);
                x.give(MOST);
                due.is("which by " + v + " of " + n, x.which(0, -1, 94), v < n ? v : STATE);
                listIs("the LIST stays", x, MOST);
                due.is("read by " + v + " of " + n, x.read(0, -1, 94), v < n ? 2 : STATE);
                if (v < n) listIs("by " + v, x, v, 30);
                else listIs("not READ", x, MOST);
            }
        }
    }

    /** "What is no VALUE is not READ.": one number of many, the first or the last. */
    private static void readOfNoValue() {
        Watched x = Watched.shapes("(b1b)", "(1[0p]e3)", "[b(e2b)]", "([11]1)");
        x.list(5, 6, 7);
        x.bytes(0, 2, 0, 0);
        due.is("the first", x.read(0, -1, 0), STATE);
        x.bytes(0, 1, 0, 2);
        due.is("the last", x.read(0, -1, 0), STATE);
        listIs("not READ", x, 5, 6, 7);
        x.bytes(0, 1, 255, 1);
        due.is("all are", x.read(0, -1, 0), 3);
        listIs("READ", x, 1, 255, 1);
        x.bytes(20, 1, 9, 9, 9, 0, 0, 0, 0, 3, 9, 9, 9);
        due.is("no CHOICE", x.read(1, -1, 20), STATE);
        listIs("not READ", x, 1, 255, 1);
        x.poke(28, 2);
        due.is("idle bytes are not looked at", x.read(1, -1, 20), 3);
        listIs("READ", x, 1, 0, 2);
        x.bytes(40, 2, 1, 9);
        due.is("the byte in front of one in it", x.read(3, -1, 40), STATE);
        x.poke(40, 1);
        due.is("the byte in front of one in it", x.read(3, -1, 40), 3);
        listIs("READ", x, 1, 1, 9);
    }

    /** "FULL: it would be more than 60." */
    private static void readOfSixty() {
        Watched x = Watched.shapes("(111111)", "(AAAAAA)", "(BAAAA)", "(C1)", "(C1111)", "(C111b)", "(BAAA(11111))", "[G1]");
        for (int p = 0; p < 96; p++) x.poke(p, p);
        x.list(42);
        due.is("61", x.read(3, -1, 0), FULL);
        due.is("64", x.read(4, -1, 0), FULL);
        due.is("64, the last of which is no VALUE", x.read(5, -1, 0), STATE);
        x.poke(63, 1);
        due.is("64, the last of which is a VALUE", x.read(5, -1, 0), FULL);
        due.is("61, OUTSIDE first", x.read(3, -1, 36), OUTSIDE);
        listIs("not READ", x, 42);
        due.is("60", x.read(2, -1, 0), 60);
        due.is("the first", x.given(0), 0);
        due.is("the last", x.given(59), 59);
        due.is("59", x.read(6, -1, 1), 59);
        due.is("the last", x.given(58), 59);
        due.is("none behind", x.given(59), NONE);
        x.poke(0, 0);
        due.is("the number of the TERM and 59: 60", x.read(7, -1, 0), 60);
        due.is("the number of the TERM", x.given(0), 0);
        due.is("the last", x.given(59), 59);
        x.list(42);
        x.tell(7, "[1C]").poke(0, 1);
        due.is("the number of the TERM and 60: 61", x.read(7, -1, 0), FULL);
        listIs("not READ", x, 42);
        x.poke(0, 0);
        due.is("of the other one", x.read(7, -1, 0), 2);
        listIs("READ", x, 0, 1);
    }

    /** Promise 17: "Which TERM of a VARIANT lies there; NONE: it is another KIND (behind all that is refused)." */
    private static void which() {
        for (String text : new String[] {"1", "4", "b", "e2", "p", "(1)", "([11]4)"}) {
            Watched x = Watched.shapes(text, "A", "x");
            x.fill(255);
            due.is("another KIND " + text, x.which(0, -1, 8), NONE);
            due.is("another KIND by a letter", x.which(1, -1, 8), NONE);
            due.is("another KIND by x", x.which(2, 0, 8), NONE);
            due.is("OUTSIDE first", x.which(0, -1, 96), OUTSIDE);
            due.is("OUTSIDE first", x.which(1, -1, -1), OUTSIDE);
        }
        // what is in the TERM that lies there is not looked at
        Watched x = Watched.shapes("[b]", "[1b]", "[0(b1)]", "[[11]]");
        x.fill(255);
        due.is("of one TERM, of no VALUE", x.which(0, -1, 0), 0);
        due.is("the HOST, of no VALUE", x.which(2, -1, 0), 1);
        due.is("of one TERM that is TAGGED", x.which(3, -1, 0), 0);
        due.is("read of it", x.read(3, -1, 0), STATE);
        due.is("no byte in front", x.which(1, -1, 0), STATE);
        x.poke(0, 1);
        due.is("of no VALUE", x.which(1, -1, 0), 1);
        due.is("read of it", x.read(1, -1, 0), STATE);
    }

    // ---- promises 18 to 21

    /** Promises 18, 19: "OUTSIDE: the place 0 to 95, 0 to 255." */
    private static void bytesOfMemory() {
        Watched x = new Watched();
        for (int place = -3; place < 100; place++) {
            boolean within = place >= 0 && place < 96;
            due.is("poke(" + place + ", 255)", x.poke(place, 255), within ? 0 : OUTSIDE);
            due.is("peek(" + place + ")", x.peek(place), within ? 255 : OUTSIDE);
            due.is("poke(" + place + ", 0)", x.poke(place, place & 127), within ? 255 : OUTSIDE);
        }
        for (int place = 0; place < 96; place++) due.is("peek(" + place + ")", x.peek(place), place);
        Watched y = new Watched();
        int was = 0;
        for (int v = -2; v < 260; v++) {
            boolean taken = v >= 0 && v <= 255;
            due.is("poke(7, " + v + ")", y.poke(7, v), taken ? was : OUTSIDE);
            if (taken) was = v;
        }
        due.is("the last that was taken", y.peek(7), 255);
    }

    /** Promises 20, 21: "(0, 1): 1. OUTSIDE", "STATE: it was not" */
    private static void images() {
        for (int k = -2; k < 4; k++) {
            Watched x = new Watched();
            boolean there = k == 0 || k == 1;
            due.is("restore(" + k + ") of none", x.restore(k), there ? STATE : OUTSIDE);
            x.poke(0, 9);
            due.is("image(" + k + ")", x.image(k), there ? 1 : OUTSIDE);
            x.poke(0, 8);
            due.is("restore(" + k + ")", x.restore(k), there ? 1 : OUTSIDE);
            due.is("the byte", x.peek(0), there ? 9 : 8);
            for (int other = 0; other < 2; other++) {
                if (other != k) due.is("the other was not kept", x.restore(other), STATE);
            }
            due.is("the byte", x.peek(0), there ? 9 : 8);
        }
        Watched x = new Watched();
        due.is("what is kept is kept at first, too", x.image(1), 1);
        x.say(0, 'x');
        x.give(3);
        x.way(1);
        x.poke(95, 3);
        due.is("kept", x.image(0), 1);
        due.is("restore(1)", x.restore(1), 1);
        due.is("signs", x.told(10), 0);
        due.is("numbers", x.told(1), 0);
        due.is("the WAY", x.told(0), 0);
        due.is("the byte", x.peek(95), 0);
        due.is("restore(0)", x.restore(0), 1);
        due.is("signs", x.told(10), 1);
        due.is("numbers", x.told(1), 1);
        due.is("the WAY", x.told(0), 1);
        due.is("the byte", x.peek(95), 3);
        due.is("again", x.restore(0), 1);
        due.is("kept anew", x.image(1), 1);
        due.is("restore(1)", x.restore(1), 1);
        due.is("signs", x.told(10), 1);
    }

    /** Promises 20, 21: "All is kept": each SHAPE to its 40th sign, 60 numbers, 96 bytes, the WAY. */
    private static void imagesKeepAll() {
        for (int k = 0; k < 2; k++) {
            for (int s = 0; s < 8; s++) {
                Watched x = new Watched();
                for (int n = 0; n < 40; n++) x.say(s, 50 + s + n);
                for (int n = 0; n < 60; n++) x.give(MOST - n);
                for (int p = 0; p < 96; p++) x.poke(p, 255 - p);
                x.way(1);
                x.image(k);
                x.wipe(s);
                x.say(s, "xx");
                x.say((s + 1) % 8, "1");
                x.list(1, 2);
                x.way(0);
                x.bytes(0, 1).bytes(95, 1);
                due.is("restore", x.restore(k), 1);
                due.is("signs", x.told(10 + s), 40);
                due.is("the other's signs", x.told(10 + (s + 1) % 8), 0);
                for (int n = 0; n < 40; n++) due.is("sign " + n, x.told(100 * s + 100 + n), 50 + s + n);
                due.is("numbers", x.told(1), 60);
                for (int n = 0; n < 60; n++) due.is("number " + n, x.given(n), MOST - n);
                for (int p = 0; p < 96; p++) due.is("byte " + p, x.peek(p), 255 - p);
                due.is("the WAY", x.told(0), 1);
            }
        }
    }
}
