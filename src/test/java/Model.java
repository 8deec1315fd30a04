import java.util.ArrayList;
import java.util.Arrays;
import java.util.List;

/**
 * The document once more, told in another way: by recursion, with the Java library, with nothing kept that can be
 * found out anew. RandomRunsTest holds RecordNiches against it.
 */
final class Model {
    static final int UNKNOWN = -1, OUTSIDE = -2, STATE = -3, FULL = -4, NO = -5, NONE = -6;

    /** Where a text can not go on. */
    static final class Fault extends Exception {
        final int place;

        Fault(int place) {
            this.place = place;
        }
    }

    static final class Over extends Exception {}

    static final class NoValue extends Exception {}

    /** A TERM as told. */
    static final class Told {
        final char sign;
        int choices;
        final List<Told> parts = new ArrayList<>();

        Told(char sign) {
            this.sign = sign;
        }
    }

    /** What stands for an x: a TERM, and what stands for the x in that. */
    record Standing(Told term, Standing outer) {}

    record Gap(int offset, int width, int first, int count) {}

    /** A TERM without letters, laid. */
    static final class Laid {
        int kind;
        int size;
        int align = 1;
        int offset;
        Gap gap;
        int choices;
        int manner;
        int host = NONE;
        List<Integer> marks = new ArrayList<>();
        final List<Laid> parts = new ArrayList<>();
    }

    static final class Kept {
        String[] texts;
        int way;
        List<Long> list;
        int[] memory;
    }

    String[] texts = {"", "", "", "", "", "", "", ""};
    int way;
    List<Long> list = new ArrayList<>();
    int[] memory = new int[96];
    final Kept[] kept = new Kept[2];

    // ---- texts

    private String text;
    private int at;
    private int self;

    boolean isOpen(int shape) {
        return texts[shape].contains("x");
    }

    Told parse(int shape) throws Fault {
        text = texts[shape];
        at = 0;
        self = shape;
        Told whole = parseTerm();
        if (at < text.length()) throw new Fault(at);
        return whole;
    }

    private char next() throws Fault {
        if (at == text.length()) throw new Fault(at);
        return text.charAt(at);
    }

    private Told parseTerm() throws Fault {
        Told term = new Told(next());
        if ("0124bpx".indexOf(term.sign) >= 0) {
            at++;
        } else if (term.sign == 'e') {
            at++;
            if ("23456789".indexOf(next()) < 0) throw new Fault(at);
            term.choices = next() - '0';
            at++;
        } else if (term.sign == '(' || term.sign == '[') {
            char close = term.sign == '(' ? ')' : ']';
            at++;
            do {
                term.parts.add(parseTerm());
            } while (term.parts.size() < 6 && next() != close);
            if (next() != close) throw new Fault(at);
            at++;
        } else if (term.sign >= 'A' && term.sign < 'A' + self) {
            at++;
            if (isOpen(term.sign - 'A')) term.parts.add(parseTerm());
        } else {
            throw new Fault(at);
        }
        return term;
    }

    int fault(int shape) {
        if (shape < 0 || shape > 7) return UNKNOWN;
        try {
            parse(shape);
            return NONE;
        } catch (Fault f) {
            return f.place;
        }
    }

    private boolean isWell(int shape) {
        if (fault(shape) != NONE) return false;
        for (char c : texts[shape].toCharArray()) {
            if (c >= 'A' && c <= 'H' && !isWell(c - 'A')) return false;
        }
        return true;
    }

    // ---- layout

    private int parts;
    private int letters;

    private Laid expand(Told term, Standing x) throws Fault, Over {
        char sign = term.sign;
        if (sign == 'x' || sign >= 'A' && sign <= 'H') {
            if (++letters > 500) throw new Over();
            if (sign == 'x') return expand(x.term, x.outer);
            Standing inner = term.parts.isEmpty() ? null : new Standing(term.parts.get(0), x);
            return expand(parse(sign - 'A'), inner);
        }
        if (++parts > 100) throw new Over();
        Laid laid = new Laid();
        laid.choices = term.choices;
        laid.kind = switch (sign) {
            case '0' -> 0;
            case '1', '2', '4' -> 1;
            case 'b' -> 2;
            case 'e' -> 3;
            case 'p' -> 4;
            case '(' -> 5;
            default -> 6;
        };
        for (Told part : term.parts) laid.parts.add(expand(part, x));
        switch (laid.kind) {
            case 1 -> laid.size = sign - '0';
            case 2 -> { laid.size = 1; laid.gap = new Gap(0, 1, 2, 254); }
            case 3 -> { laid.size = 1; laid.gap = new Gap(0, 1, term.choices, 256 - term.choices); }
            case 4 -> { laid.size = 4; laid.gap = new Gap(0, 4, 0, 1); }
            case 5 -> layRecord(laid);
            case 6 -> layVariant(laid);
            default -> laid.size = 0;
        }
        if (laid.kind < 5) laid.align = Math.max(1, laid.size);
        if (laid.size > 64) throw new Over();
        return laid;
    }

    private static int first(int from, int align) {
        int n = from;
        while (n % align != 0) n++;
        return n;
    }

    private static int sizeInOrder(List<Laid> order) {
        int end = 0;
        int align = 1;
        for (Laid f : order) {
            f.offset = first(end, f.align);
            end = f.offset + f.size;
            align = Math.max(align, f.align);
        }
        return first(end, align);
    }

    private void layRecord(Laid r) {
        for (Laid f : r.parts) r.align = Math.max(r.align, f.align);
        List<Laid> order = new ArrayList<>(r.parts);
        if (way == 1) order.sort((a, b) -> b.align - a.align);
        r.size = sizeInOrder(order);
        for (Laid f : order) {
            if (f.gap == null) continue;
            Gap g = new Gap(f.offset + f.gap.offset, f.gap.width, f.gap.first, f.gap.count);
            if (r.gap == null || g.count > r.gap.count || g.count == r.gap.count && g.offset < r.gap.offset) r.gap = g;
        }
    }

    private static void layVariant(Laid v) {
        for (Laid t : v.parts) v.align = Math.max(v.align, t.align);
        if (v.parts.size() == 1) {
            v.size = v.parts.get(0).size;
            v.gap = v.parts.get(0).gap;
            v.marks.add(NONE);
            return;
        }
        int most = v.parts.stream().mapToInt(t -> t.size).max().getAsInt();
        int host = 0;
        while (v.parts.get(host).size != most) host++;
        if (!hides(v, host)) layTagged(v);
    }

    private static boolean hides(Laid v, int host) {
        Laid h = v.parts.get(host);
        int others = v.parts.size() - 1;
        if (h.gap == null || h.gap.count < others) return false;
        int[] offsets = new int[v.parts.size()];
        for (int i = 0; i < v.parts.size(); i++) {
            Laid t = v.parts.get(i);
            if (i == host || t.size <= h.gap.offset) continue;
            offsets[i] = first(h.gap.offset + h.gap.width, t.align);
            if (offsets[i] + t.size > h.size) return false;
        }
        int mark = h.gap.first;
        for (int i = 0; i < v.parts.size(); i++) {
            v.parts.get(i).offset = offsets[i];
            v.marks.add(i == host ? NONE : mark++);
        }
        v.manner = 1;
        v.host = host;
        v.size = first(h.size, v.align);
        int left = h.gap.count - others;
        v.gap = left == 0 ? null : new Gap(h.gap.offset, h.gap.width, mark, left);
        return true;
    }

    private static void layTagged(Laid v) {
        int end = 1;
        for (int i = 0; i < v.parts.size(); i++) {
            Laid t = v.parts.get(i);
            t.offset = first(1, t.align);
            end = Math.max(end, t.offset + t.size);
            v.marks.add(i);
        }
        v.manner = 2;
        v.size = first(end, v.align);
        v.gap = new Gap(0, 1, v.parts.size(), 256 - v.parts.size());
    }

    private int refused;
    private Laid laid;

    boolean isKnown(int shape, int u) {
        if (shape < 0 || shape > 7) return false;
        return isOpen(shape) ? u >= 0 && u <= 7 && !isOpen(u) : u == -1;
    }

    /** The SHAPE laid; what is refused, is told. */
    private boolean lay(int shape, int u) {
        refused = NO;
        if (!isWell(shape) || u >= 0 && !isWell(u)) return false;
        refused = STATE;
        parts = 0;
        letters = 0;
        try {
            laid = expand(parse(shape), u < 0 ? null : new Standing(parse(u), null));
            return true;
        } catch (Over o) {
            return false;
        } catch (Fault f) {
            throw new IllegalStateException(f);
        }
    }

    /** The SHAPE laid, or null: for a test that looks for VALUES. */
    Laid laidOrNull(int shape, int u) {
        return isKnown(shape, u) && lay(shape, u) ? laid : null;
    }

    // ---- calls

    int say(int shape, int sign) {
        if (shape < 0 || shape > 7) return UNKNOWN;
        if (sign < 33 || sign > 126) return OUTSIDE;
        if (texts[shape].length() == 40) return FULL;
        texts[shape] += (char) sign;
        return texts[shape].length();
    }

    int wipe(int shape) {
        if (shape < 0 || shape > 7) return UNKNOWN;
        int were = texts[shape].length();
        texts[shape] = "";
        return were;
    }

    int way(int w) {
        if (w != 0 && w != 1) return OUTSIDE;
        int was = way;
        way = w;
        return was;
    }

    int layout(int shape, int u, int what) {
        if (!isKnown(shape, u)) return UNKNOWN;
        if (what < 0 || what > 6) return OUTSIDE;
        if (!lay(shape, u)) return refused;
        if (what == 0) return laid.size;
        if (what == 1) return laid.align;
        if (what == 6) return parts;
        Gap g = laid.gap;
        return g == null ? NONE : new int[] {g.offset, g.width, g.first, g.count}[what - 2];
    }

    int term(int shape, int u, int i, int what) {
        if (!isKnown(shape, u)) return UNKNOWN;
        if (what < 0 || what > 3) return OUTSIDE;
        if (!lay(shape, u)) return refused;
        if (i < 0 || i >= laid.parts.size()) return NONE;
        Laid t = laid.parts.get(i);
        return new int[] {t.offset, t.size, t.align, t.kind}[what];
    }

    int variant(int shape, int u, int what) {
        if (!isKnown(shape, u)) return UNKNOWN;
        if (what < 0 || what > 1) return OUTSIDE;
        if (!lay(shape, u)) return refused;
        if (laid.kind != 6) return NONE;
        return what == 0 ? laid.manner : laid.host;
    }

    int pattern(int shape, int u, int i) {
        if (!isKnown(shape, u)) return UNKNOWN;
        if (!lay(shape, u)) return refused;
        return i < 0 || i >= laid.marks.size() ? NONE : laid.marks.get(i);
    }

    int least(int shape, int u) {
        if (!isKnown(shape, u)) return UNKNOWN;
        if (!lay(shape, u)) return refused;
        return laid.kind != 5 ? NONE : leastOf(new ArrayList<>(), new ArrayList<>(laid.parts));
    }

    private static int leastOf(List<Laid> before, List<Laid> left) {
        if (left.isEmpty()) return sizeInOrder(before);
        int least = Integer.MAX_VALUE;
        for (int i = 0; i < left.size(); i++) {
            List<Laid> longer = new ArrayList<>(before);
            List<Laid> rest = new ArrayList<>(left);
            longer.add(rest.remove(i));
            least = Math.min(least, leastOf(longer, rest));
        }
        return least;
    }

    int idle(int shape, int u) {
        if (!isKnown(shape, u)) return UNKNOWN;
        if (!lay(shape, u)) return refused;
        boolean[] used = new boolean[laid.size];
        use(laid, 0, used);
        int idle = 0;
        for (boolean b : used) idle += b ? 0 : 1;
        return idle;
    }

    private static void use(Laid t, int at, boolean[] used) {
        if (t.kind >= 1 && t.kind <= 4) Arrays.fill(used, at, at + t.size, true);
        if (t.manner == 2) used[at] = true;
        for (Laid p : t.parts) use(p, at + p.offset, used);
    }

    int give(long n) {
        if (n < 0 || n > 0xFFFFFFFFL) return OUTSIDE;
        if (list.size() == 60) return FULL;
        list.add(n);
        return list.size();
    }

    int drop() {
        int were = list.size();
        list.clear();
        return were;
    }

    long given(int i) {
        if (i == -1) return list.size();
        return i >= 0 && i < list.size() ? list.get(i) : NONE;
    }

    private int layAt(int shape, int u, int place) {
        if (!isKnown(shape, u)) return UNKNOWN;
        if (!lay(shape, u)) return refused;
        return place >= 0 && place % laid.align == 0 && (long) place + laid.size <= 96 ? 0 : OUTSIDE;
    }

    private static long most(Laid t) {
        return switch (t.kind) {
            case 1 -> new long[] {0, 0xFF, 0xFFFF, 0, 0xFFFFFFFFL}[t.size];
            case 2 -> 1;
            case 3 -> t.choices - 1;
            case 4 -> 0xFFFFFFFFL;
            default -> t.parts.size() - 1;
        };
    }

    private static void put(int[] bytes, int at, int width, long n) {
        long rest = n;
        for (int i = 0; i < width; i++) {
            bytes[at + i] = (int) (rest % 256);
            rest /= 256;
        }
    }

    private static long get(int[] bytes, int at, int width) {
        long n = 0;
        for (int i = width - 1; i >= 0; i--) n = n * 256 + bytes[at + i];
        return n;
    }

    private static void checked(Laid t, long n) throws NoValue {
        if (n < (t.kind == 4 ? 1 : 0) || n > most(t)) throw new NoValue();
    }

    private int store(Laid t, int at, int[] bytes, int from) throws NoValue {
        int next = from;
        if (t.kind == 0) return next;
        if (t.kind == 5) {
            for (Laid f : t.parts) next = store(f, at + f.offset, bytes, next);
            return next;
        }
        if (next >= list.size()) throw new NoValue();
        long n = list.get(next++);
        checked(t, n);
        if (t.kind < 5) {
            put(bytes, at, t.size, n);
            return next;
        }
        Laid chosen = t.parts.get((int) n);
        next = store(chosen, at + chosen.offset, bytes, next);
        if (t.manner == 2) put(bytes, at, 1, n);
        if (t.manner == 1 && n != t.host) {
            Gap g = t.parts.get(t.host).gap;
            put(bytes, at + g.offset, g.width, t.marks.get((int) n));
        }
        return next;
    }

    int write(int shape, int u, int place) {
        int r = layAt(shape, u, place);
        if (r != 0) return r;
        int[] bytes = memory.clone();
        Arrays.fill(bytes, place, place + laid.size, 0);
        try {
            if (store(laid, place, bytes, 0) != list.size()) return STATE;
        } catch (NoValue n) {
            return STATE;
        }
        memory = bytes;
        return laid.size;
    }

    private int lyingAt(Laid v, int at) {
        if (v.manner == 0) return 0;
        if (v.manner == 2) return memory[at] < v.parts.size() ? memory[at] : -1;
        Gap g = v.parts.get(v.host).gap;
        int i = v.marks.indexOf((int) Math.min(get(memory, at + g.offset, g.width), Integer.MAX_VALUE));
        return i < 0 ? v.host : i;
    }

    private void load(Laid t, int at, List<Long> into) throws NoValue {
        if (t.kind == 5) {
            for (Laid f : t.parts) load(f, at + f.offset, into);
        } else if (t.kind == 6) {
            int i = lyingAt(t, at);
            if (i < 0) throw new NoValue();
            into.add((long) i);
            load(t.parts.get(i), at + t.parts.get(i).offset, into);
        } else if (t.kind != 0) {
            long n = get(memory, at, t.size);
            checked(t, n);
            into.add(n);
        }
    }

    int read(int shape, int u, int place) {
        int r = layAt(shape, u, place);
        if (r != 0) return r;
        List<Long> found = new ArrayList<>();
        try {
            load(laid, place, found);
        } catch (NoValue n) {
            return STATE;
        }
        if (found.size() > 60) return FULL;
        list = found;
        return list.size();
    }

    int which(int shape, int u, int place) {
        int r = layAt(shape, u, place);
        if (r != 0) return r;
        if (laid.kind != 6) return NONE;
        int i = lyingAt(laid, place);
        return i < 0 ? STATE : i;
    }

    int poke(int place, int v) {
        if (place < 0 || place > 95 || v < 0 || v > 255) return OUTSIDE;
        int was = memory[place];
        memory[place] = v;
        return was;
    }

    int peek(int place) {
        return place < 0 || place > 95 ? OUTSIDE : memory[place];
    }

    int image(int k) {
        if (k != 0 && k != 1) return OUTSIDE;
        kept[k] = new Kept();
        kept[k].texts = texts.clone();
        kept[k].way = way;
        kept[k].list = new ArrayList<>(list);
        kept[k].memory = memory.clone();
        return 1;
    }

    int restore(int k) {
        if (k != 0 && k != 1) return OUTSIDE;
        if (kept[k] == null) return STATE;
        texts = kept[k].texts.clone();
        way = kept[k].way;
        list = new ArrayList<>(kept[k].list);
        memory = kept[k].memory.clone();
        return 1;
    }

    int told(int what) {
        if (what == 0) return way;
        if (what == 1) return list.size();
        if (what >= 10 && what <= 17) return texts[what - 10].length();
        if (what >= 20 && what <= 27) return isOpen(what - 20) ? 1 : 0;
        for (int s = 0; s < 8; s++) {
            for (int p = 0; p < texts[s].length(); p++) {
                if (what == 100 * s + 100 + p) return texts[s].charAt(p);
            }
        }
        return OUTSIDE;
    }
}
