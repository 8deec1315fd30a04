import java.util.ArrayList;
import java.util.List;
import java.util.function.ToLongFunction;

/**
 * "Calls that are refused answer, the first of these that fits: UNKNOWN, OUTSIDE, NO, STATE, FULL. They change
 * nothing." For each promise each way to be refused, by the first number that is, on both sides; where two fit, the
 * first; and that an object on which it was asked is the same then as one on which it was not. So with what is asked
 * and answered with no change told.
 */
final class RefusedTest {
    private static final int UNKNOWN = -1, OUTSIDE = -2, STATE = -3, FULL = -4, NO = -5, NONE = -6;
    private static final int MIN = Integer.MIN_VALUE, MAX = Integer.MAX_VALUE;
    private static final int[] NO_SHAPES = {-1, 8, MIN, MAX};
    // SHAPES of the object that is asked
    private static final int OPEN = 0, TAG = 1, OPEN_FAULT = 2, FAULT = 3, OVER = 5, FULL_TEXT = 6, MANY = 7;
    private static final Due due = new Due("RefusedTest");

    private interface Laid {
        int ask(Watched x, int shape, int u);
    }

    public static void main(String[] args) {
        say();
        wipeAndFault();
        way();
        layoutTermAndVariant();
        patternLeastAndIdle();
        dropGiveAndGiven();
        write();
        read();
        which();
        pokeAndPeek();
        images();
        told();
        due.end();
    }

    // ---- the object, and how it is held against another

    /** Texts that are WELL, that have a FAULT, that are OVER, of 40 signs; 60 numbers; IMAGE 0 of something else. */
    private static Watched busy() {
        Watched x = Watched.shapes("p", "e5");
        x.list(3, 1).bytes(0, 9, 8, 7);
        x.image(0);
        x.tell(0, "[0x]").tell(1, "[14]");
        x.say(2, "(x");
        x.say(3, "(14");
        x.say(4, "(111111)");
        x.say(5, "((BBBBBB)(BBBBBB))");
        x.say(6, "1".repeat(40));
        x.say(7, "((EEEEEE)EEEE1)");
        x.way(1);
        x.drop();
        for (int i = 0; i < 60; i++) x.give(4294967295L - i);
        for (int p = 0; p < 96; p += 5) x.poke(p, 200 - p);
        return x;
    }

    /** All that can be told of an object. */
    private static List<Long> whole(Watched x) {
        List<Long> all = new ArrayList<>();
        for (int what = 0; what < 2; what++) all.add((long) x.told(what));
        for (int s = 0; s < 8; s++) {
            int signs = x.told(10 + s);
            all.add((long) x.told(20 + s));
            for (int p = 0; p < signs; p++) all.add((long) x.told(100 * s + 100 + p));
            all.add((long) signs);
        }
        int numbers = x.told(1);
        for (int i = 0; i < numbers; i++) all.add(x.given(i));
        for (int p = 0; p < 96; p++) all.add((long) x.peek(p));
        return all;
    }

    /** What is answered, and that nothing is changed by it: of what is there, and of the IMAGES. */
    private static void is(String call, ToLongFunction<Watched> asked, long want) {
        Watched x = busy();
        due.is(call, asked.applyAsLong(x), want);
        due.holds(call + " changes nothing", whole(x).equals(whole(busy())));
        Watched y = busy();
        Watched z = busy();
        asked.applyAsLong(y);
        due.is(call + ", IMAGE 1 was not kept", y.restore(1), STATE);
        due.is(call + ", asked again", asked.applyAsLong(y), want);
        y.restore(0);
        z.restore(0);
        due.holds(call + " leaves the IMAGE", whole(y).equals(whole(z)));
    }

    // ---- 2 to 5

    private static void say() {
        for (int s : NO_SHAPES) {
            is("say(" + s + ", 65)", x -> x.say(s, 65), UNKNOWN);
            is("say(" + s + ", 32), UNKNOWN first", x -> x.say(s, 32), UNKNOWN);
        }
        for (int sign : new int[] {32, 127, 0, -1, MIN, MAX, 33 + 256, 33 + 65536}) {
            is("say(0, " + sign + ")", x -> x.say(0, sign), OUTSIDE);
            is("say(6, " + sign + "), OUTSIDE first", x -> x.say(FULL_TEXT, sign), OUTSIDE);
        }
        is("say(6, 33), the 41st", x -> x.say(FULL_TEXT, 33), FULL);
        is("say(6, 126), the 41st", x -> x.say(FULL_TEXT, 126), FULL);
    }

    private static void wipeAndFault() {
        for (int s : NO_SHAPES) {
            is("wipe(" + s + ")", x -> x.wipe(s), UNKNOWN);
            is("fault(" + s + ")", x -> x.fault(s), UNKNOWN);
        }
        is("fault(0)", x -> x.fault(OPEN), NONE);
        is("fault(3)", x -> x.fault(FAULT), 3);
        is("fault(6)", x -> x.fault(FULL_TEXT), 1);
    }

    private static void way() {
        for (int w : new int[] {-1, 2, MIN, MAX}) is("way(" + w + ")", x -> x.way(w), OUTSIDE);
        is("way(1), as it is", x -> x.way(1), 1);
    }

    // ---- 6 to 11

    /** UNKNOWN, NO, STATE, as of layout(), of all calls that ask for a SHAPE with u. */
    private static void shapeIsRefused(String name, Laid call) {
        for (int s : NO_SHAPES) {
            is(name + " of " + s, x -> call.ask(x, s, -1), UNKNOWN);
            is(name + " of " + s + " with 1", x -> call.ask(x, s, TAG), UNKNOWN);
        }
        for (int u : new int[] {-1, -2, 8, MIN, MAX, OPEN, OPEN_FAULT}) {
            is(name + " of one that is OPEN with " + u, x -> call.ask(x, OPEN, u), UNKNOWN);
            is(name + " of one that is OPEN, with a FAULT, with " + u, x -> call.ask(x, OPEN_FAULT, u), UNKNOWN);
        }
        for (int u : new int[] {-2, 0, TAG, 7, 8, MIN, MAX}) {
            is(name + " of one that is not OPEN with " + u, x -> call.ask(x, TAG, u), UNKNOWN);
            is(name + " of one with a FAULT, UNKNOWN first, with " + u, x -> call.ask(x, FAULT, u), UNKNOWN);
            is(name + " of one that is OVER, UNKNOWN first, with " + u, x -> call.ask(x, OVER, u), UNKNOWN);
        }
        is(name + " of one with a FAULT", x -> call.ask(x, FAULT, -1), NO);
        is(name + " of one that is OPEN, with a FAULT", x -> call.ask(x, OPEN_FAULT, TAG), NO);
        is(name + " with a u that has a FAULT", x -> call.ask(x, OPEN, FAULT), NO);
        is(name + " with a u of 40 signs, with a FAULT", x -> call.ask(x, OPEN, FULL_TEXT), NO);
        is(name + " of one that is OVER", x -> call.ask(x, OVER, -1), STATE);
        is(name + " with a u that is OVER", x -> call.ask(x, OPEN, OVER), STATE);
    }

    /** The last number that is taken, and the first that is not; OUTSIDE is behind UNKNOWN, before NO and STATE. */
    private static void whatIsRefused(String name, int below, int above, java.util.function.IntFunction<Laid> calls) {
        for (int what : new int[] {below, above, MIN, MAX}) {
            Laid call = calls.apply(what);
            is(name + " " + what, x -> call.ask(x, TAG, -1), OUTSIDE);
            is(name + " " + what + " of 8, UNKNOWN first", x -> call.ask(x, 8, -1), UNKNOWN);
            is(name + " " + what + " with no u, UNKNOWN first", x -> call.ask(x, OPEN, -1), UNKNOWN);
            is(name + " " + what + " of one with a FAULT, OUTSIDE first", x -> call.ask(x, FAULT, -1), OUTSIDE);
            is(name + " " + what + " of one that is OVER, OUTSIDE first", x -> call.ask(x, OVER, -1), OUTSIDE);
        }
        for (int what = below + 1; what < above; what++) shapeIsRefused(name + " " + what, calls.apply(what));
    }

    private static void layoutTermAndVariant() {
        whatIsRefused("layout, what", -1, 7, what -> (x, s, u) -> x.layout(s, u, what));
        whatIsRefused("term 0, what", -1, 4, what -> (x, s, u) -> x.term(s, u, 0, what));
        whatIsRefused("variant, what", -1, 2, what -> (x, s, u) -> x.variant(s, u, what));
        shapeIsRefused("term 6", (x, s, u) -> x.term(s, u, 6, 0));
        is("term 2 of two", x -> x.term(TAG, -1, 2, 0), NONE);
        is("term 2 of two, OUTSIDE first", x -> x.term(TAG, -1, 2, 4), OUTSIDE);
        is("layout", x -> x.layout(TAG, -1, 0), 8);
        is("layout with u", x -> x.layout(OPEN, MANY, 6), 2 + 1 + (1 + 6 * 7) + 4 * 7 + 1);
    }

    private static void patternLeastAndIdle() {
        shapeIsRefused("pattern", (x, s, u) -> x.pattern(s, u, 0));
        shapeIsRefused("pattern of -1", (x, s, u) -> x.pattern(s, u, -1));
        shapeIsRefused("least", (x, s, u) -> x.least(s, u));
        shapeIsRefused("idle", (x, s, u) -> x.idle(s, u));
        is("pattern", x -> x.pattern(TAG, -1, 1), 1);
        is("least of a VARIANT", x -> x.least(TAG, -1), NONE);
        is("idle", x -> x.idle(TAG, -1), 2);
    }

    // ---- 12 to 14

    private static void dropGiveAndGiven() {
        for (long n : new long[] {-1, 4294967296L, Long.MIN_VALUE, Long.MAX_VALUE, -4294967295L}) {
            is("give(" + n + "), OUTSIDE first", x -> x.give(n), OUTSIDE);
        }
        is("give(0), the 61st", x -> x.give(0), FULL);
        is("give(4294967295), the 61st", x -> x.give(4294967295L), FULL);
        for (int i : new int[] {-2, 60, 61, MIN, MAX}) is("given(" + i + ")", x -> x.given(i), NONE);
        is("given(-1)", x -> x.given(-1), 60);
        is("given(59)", x -> x.given(59), 4294967295L - 59);
    }

    // ---- 15 to 17: UNKNOWN, NO, STATE (OVER), then OUTSIDE (the place), then STATE (no VALUE), FULL

    /** ALIGN 4 and SIZE 8: the places 0 to 88 that 4 divides. */
    private static void placeIsRefused(String name, Laid[] calls, int[] places) {
        for (int i = 0; i < calls.length; i++) {
            Laid call = calls[i];
            String at = name + " at " + places[i];
            is(at, x -> call.ask(x, TAG, -1), OUTSIDE);
            is(at + ", UNKNOWN first", x -> call.ask(x, 8, -1), UNKNOWN);
            is(at + ", UNKNOWN (u) first", x -> call.ask(x, OPEN, -1), UNKNOWN);
            is(at + ", NO first", x -> call.ask(x, FAULT, -1), NO);
            is(at + ", NO (of u) first", x -> call.ask(x, OPEN, FAULT), NO);
            is(at + ", STATE (OVER) first", x -> call.ask(x, OVER, -1), STATE);
            is(at + ", STATE (OVER, of u) first", x -> call.ask(x, OPEN, OVER), STATE);
        }
    }

    private static final int[] NO_PLACES = {-1, -4, 1, 2, 3, 87, 89, 92, 96, 97, 100, MIN, MAX, MAX - 3, MAX - 7};

    private static void write() {
        shapeIsRefused("write", (x, s, u) -> x.write(s, u, 0));
        Laid[] calls = new Laid[NO_PLACES.length];
        for (int i = 0; i < calls.length; i++) {
            int place = NO_PLACES[i];
            calls[i] = (x, s, u) -> x.write(s, u, place);
        }
        placeIsRefused("write", calls, NO_PLACES);
        is("write, no VALUE", x -> x.write(TAG, -1, 0), STATE);
        is("write, no VALUE, at the last place", x -> x.write(TAG, -1, 88), STATE);
        is("write of 61 numbers", x -> x.write(MANY, -1, 0), STATE);
    }

    private static void read() {
        shapeIsRefused("read", (x, s, u) -> x.read(s, u, 0));
        Laid[] calls = new Laid[NO_PLACES.length];
        for (int i = 0; i < calls.length; i++) {
            int place = NO_PLACES[i];
            calls[i] = (x, s, u) -> x.read(s, u, place);
        }
        placeIsRefused("read", calls, NO_PLACES);
        is("read, no VALUE", x -> x.read(TAG, -1, 0), STATE);
        is("read of 61 numbers", x -> x.read(MANY, -1, 0), FULL);
        is("read of 61 numbers, OUTSIDE first", x -> x.read(MANY, -1, 96), OUTSIDE);
    }

    private static void which() {
        shapeIsRefused("which", (x, s, u) -> x.which(s, u, 0));
        Laid[] calls = new Laid[NO_PLACES.length];
        for (int i = 0; i < calls.length; i++) {
            int place = NO_PLACES[i];
            calls[i] = (x, s, u) -> x.which(s, u, place);
        }
        placeIsRefused("which", calls, NO_PLACES);
        is("which, no byte in front", x -> x.which(TAG, -1, 0), STATE);
        is("which", x -> x.which(TAG, -1, 4), 0);
        is("which of a RECORD", x -> x.which(4, -1, 0), NONE);
        is("which of a RECORD, OUTSIDE first", x -> x.which(4, -1, 91), OUTSIDE);
    }

    // ---- 18 to 22

    private static void pokeAndPeek() {
        for (int place : new int[] {-1, 96, MIN, MAX}) {
            is("poke(" + place + ", 0)", x -> x.poke(place, 0), OUTSIDE);
            is("poke(" + place + ", 256)", x -> x.poke(place, 256), OUTSIDE);
            is("peek(" + place + ")", x -> x.peek(place), OUTSIDE);
        }
        for (int v : new int[] {-1, 256, 511, MIN, MAX}) {
            is("poke(0, " + v + ")", x -> x.poke(0, v), OUTSIDE);
            is("poke(95, " + v + ")", x -> x.poke(95, v), OUTSIDE);
        }
        is("peek(95)", x -> x.peek(95), 105);
    }

    private static void images() {
        for (int k : new int[] {-1, 2, MIN, MAX}) {
            is("image(" + k + ")", x -> x.image(k), OUTSIDE);
            is("restore(" + k + ")", x -> x.restore(k), OUTSIDE);
        }
        is("restore(1), that was not kept", x -> x.restore(1), STATE);
    }

    private static void told() {
        for (int what : new int[] {-1, 2, 9, 18, 19, 28, 99, 104, 139, 140, 199, 204, 302, 403, 740, 799, 899, 900, 939, 1000, MIN, MAX}) {
            is("told(" + what + ")", x -> x.told(what), OUTSIDE);
        }
        is("told(739), the 40th", x -> x.told(739), '1');
    }
}
