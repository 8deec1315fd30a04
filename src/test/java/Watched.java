/** A RecordNiches whose calls are counted: what comes behind the 512th is free, so no test may go by it. */
final class Watched {
    private static final int MOST_CALLS = 512;
    private final RecordNiches x = new RecordNiches();
    private int calls;

    private RecordNiches next() {
        calls++;
        if (calls > MOST_CALLS) throw new IllegalStateException("a test makes more than 512 calls on one object");
        return x;
    }

    /** A new object with a text each for the first SHAPES. */
    static Watched shapes(String... texts) {
        Watched w = new Watched();
        for (int s = 0; s < texts.length; s++) w.say(s, texts[s]);
        return w;
    }

    /** Says all signs of a text: what the last one answered. */
    int say(int shape, String text) {
        int last = 0;
        for (char c : text.toCharArray()) last = say(shape, c);
        return last;
    }

    /** The SHAPE's text is this one then. */
    Watched tell(int shape, String text) {
        wipe(shape);
        say(shape, text);
        return this;
    }

    /** The LIST is this one then. */
    Watched list(long... numbers) {
        drop();
        for (long n : numbers) give(n);
        return this;
    }

    /** Bytes from a place on. */
    Watched bytes(int place, int... bytes) {
        for (int i = 0; i < bytes.length; i++) poke(place + i, bytes[i]);
        return this;
    }

    Watched fill(int v) {
        for (int p = 0; p < 96; p++) poke(p, v);
        return this;
    }

    int say(int shape, int sign) {
        return next().say(shape, sign);
    }

    int wipe(int shape) {
        return next().wipe(shape);
    }

    int fault(int shape) {
        return next().fault(shape);
    }

    int way(int w) {
        return next().way(w);
    }

    int layout(int shape, int u, int what) {
        return next().layout(shape, u, what);
    }

    int term(int shape, int u, int i, int what) {
        return next().term(shape, u, i, what);
    }

    int variant(int shape, int u, int what) {
        return next().variant(shape, u, what);
    }

    int pattern(int shape, int u, int i) {
        return next().pattern(shape, u, i);
    }

    int least(int shape, int u) {
        return next().least(shape, u);
    }

    int idle(int shape, int u) {
        return next().idle(shape, u);
    }

    int give(long n) {
        return next().give(n);
    }

    int drop() {
        return next().drop();
    }

    long given(int i) {
        return next().given(i);
    }

    int write(int shape, int u, int place) {
        return next().write(shape, u, place);
    }

    int read(int shape, int u, int place) {
        return next().read(shape, u, place);
    }

    int which(int shape, int u, int place) {
        return next().which(shape, u, place);
    }

    int poke(int place, int v) {
        return next().poke(place, v);
    }

    int peek(int place) {
        return next().peek(place);
    }

    int image(int k) {
        return next().image(k);
    }

    int restore(int k) {
        return next().restore(k);
    }

    int told(int what) {
        return next().told(what);
    }
}
