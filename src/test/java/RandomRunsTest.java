import java.util.Random;

/** Runs of up to 512 random calls (the seeds are fixed), held against the Model. */
final class RandomRunsTest {
    private static final int TOP = 3;
    private static final int[] ODD = {Integer.MIN_VALUE, -4, -2, 8, 97, 96, 128, Integer.MAX_VALUE};

    private final Due due;
    private final int run;
    private final Random random;
    private final Watched x = new Watched();
    private final Model model = new Model();
    private int calls;

    private RandomRunsTest(Due due, int run) {
        this.due = due;
        this.run = run;
        this.random = new Random(run);
    }

    public static void main(String[] args) {
        Due due = new Due("RandomRunsTest");
        int runs = args.length > 0 ? Integer.parseInt(args[0]) : 3000;
        for (int run = 0; run < runs; run++) new RandomRunsTest(due, run).go();
        due.end();
    }

    private void same(String call, long got, long want) {
        calls++;
        due.is("run " + run + ", call " + calls + ": " + call, got, want);
    }

    private boolean chance(int inHundred) {
        return random.nextInt(100) < inHundred;
    }

    private int odd(int bound) {
        return chance(3) ? ODD[random.nextInt(ODD.length)] : random.nextInt(bound);
    }

    private void go() {
        int shapes = 4 + random.nextInt(5);
        for (int s = 0; s < shapes; s++) tell(s);
        while (calls < 430) {
            switch (random.nextInt(14)) {
                case 0 -> retell();
                case 1, 2, 3 -> laying();
                case 4, 5, 6, 7 -> writing();
                case 8, 9 -> reading();
                case 10 -> poking();
                case 11 -> listing();
                case 12 -> imaging();
                default -> telling();
            }
        }
        for (int p = 0; p < 96 && calls < 512; p++) same("peek(" + p + ")", x.peek(p), model.peek(p));
    }

    // ---- shapes

    private String term(int shape, int depth) {
        int n = random.nextInt(depth <= 0 ? 60 : 100);
        if (depth == TOP && chance(80)) n = 44 + random.nextInt(56);
        if (n < 6) return "0";
        if (n < 20) return "1";
        if (n < 26) return "2";
        if (n < 30) return "4";
        if (n < 36) return "b";
        if (n < 40) return "e" + (char) ('2' + random.nextInt(8));
        if (n < 44) return "p";
        if (n < 60) return shape > 0 ? letter(shape, depth) : chance(40) ? "x" : "b";
        StringBuilder s = new StringBuilder(n < 78 ? "(" : "[");
        int parts = 1 + random.nextInt(chance(20) ? 6 : 3);
        for (int i = 0; i < parts; i++) s.append(term(shape, depth - 1));
        return s.append(n < 78 ? ")" : "]").toString();
    }

    private String letter(int shape, int depth) {
        if (chance(10)) return "x";
        int lesser = random.nextInt(shape);
        String l = String.valueOf((char) ('A' + lesser));
        return model.isOpen(lesser) ? l + term(shape, depth - 1) : l;
    }

    /** A text that leads to many PARTS and letters, a great SIZE, many numbers. */
    private String letters(int shape) {
        char opener = chance(80) ? '(' : '[';
        StringBuilder s = new StringBuilder().append(opener);
        int parts = 2 + random.nextInt(5);
        int lesser = random.nextInt(shape);
        for (int i = 0; i < parts; i++) {
            if (chance(15)) lesser = random.nextInt(shape);
            s.append((char) ('A' + lesser));
            if (model.isOpen(lesser)) s.append(chance(30) ? letter(shape, 1) : term(shape, 1));
        }
        return s.append(opener == '(' ? ')' : ']').toString();
    }

    private String spoilt(String text) {
        if (text.isEmpty() || !chance(5)) return text;
        int p = random.nextInt(text.length());
        return switch (random.nextInt(3)) {
            case 0 -> text.substring(0, p);
            case 1 -> text.substring(0, p) + "0124bexp()[]ABH39?z".charAt(random.nextInt(19)) + text.substring(p + 1);
            default -> text.substring(0, p) + "01e])(ABx".charAt(random.nextInt(9)) + text.substring(p);
        };
    }

    private void tell(int s) {
        String text = s > 0 && chance(15) ? letters(s) : term(s, TOP);
        for (int i = 0; i < 30 && text.length() > 30; i++) text = term(s, TOP);
        if (text.length() > 45) text = text.substring(0, 41);
        for (char c : spoilt(text).toCharArray()) {
            if (calls < 480) same("say(" + s + ", " + c + ")", x.say(s, c), model.say(s, c));
        }
        same("fault(" + s + ")", x.fault(s), model.fault(s));
    }

    private void retell() {
        int s = odd(8);
        if (chance(70)) same("wipe(" + s + ")", x.wipe(s), model.wipe(s));
        if (chance(30)) {
            int sign = chance(10) ? odd(200) : "0124bexp()[]AB29".charAt(random.nextInt(16));
            same("say(" + s + ", " + sign + ")", x.say(s, sign), model.say(s, sign));
        } else if (s >= 0 && s < 8 && calls < 300) {
            tell(s);
        }
        same("fault(" + s + ")", x.fault(s), model.fault(s));
    }

    /** What the SHAPE is to be asked with, mostly. */
    private int with(int s) {
        if (chance(4) || s < 0 || s > 7) return odd(9) - 1;
        if (!model.isOpen(s)) return -1;
        for (int i = 0; i < 20; i++) {
            int u = random.nextInt(8);
            if (!model.isOpen(u) && model.fault(u) == Model.NONE) return u;
        }
        return random.nextInt(8);
    }

    private void laying() {
        int s = odd(8);
        int u = with(s);
        String asked = "(" + s + ", " + u;
        if (chance(20)) {
            int w = odd(2);
            same("way(" + w + ")", x.way(w), model.way(w));
        }
        for (int what = 0; what < 7; what++) {
            same("layout" + asked + ", " + what + ")", x.layout(s, u, what), model.layout(s, u, what));
        }
        int i = odd(6);
        for (int what = 0; what < 4; what++) {
            same("term" + asked + ", " + i + ", " + what + ")", x.term(s, u, i, what), model.term(s, u, i, what));
        }
        int what = odd(3);
        same("layout" + asked + ", " + what + ")", x.layout(s, u, what), model.layout(s, u, what));
        same("term" + asked + ", 0, " + what + ")", x.term(s, u, 0, what), model.term(s, u, 0, what));
        same("variant" + asked + ", " + what + ")", x.variant(s, u, what), model.variant(s, u, what));
        same("pattern" + asked + ", " + i + ")", x.pattern(s, u, i), model.pattern(s, u, i));
        same("least" + asked + ")", x.least(s, u), model.least(s, u));
        same("idle" + asked + ")", x.idle(s, u), model.idle(s, u));
    }

    // ---- values

    private void give(long n) {
        same("give(" + n + ")", x.give(n), model.give(n));
    }

    private long number(long most, long least) {
        if (chance(2)) return most + 1;
        if (chance(2)) return least - 1;
        if (chance(20)) return most;
        return least + (long) (random.nextDouble() * (most - least + 1));
    }

    private void giveValue(Model.Laid t) {
        if (calls > 470) return;
        switch (t.kind) {
            case 0 -> { }
            case 1 -> give(number((1L << (8 * t.size)) - 1, 0));
            case 2 -> give(number(1, 0));
            case 3 -> give(number(t.choices - 1, 0));
            case 4 -> give(number(0xFFFFFFFFL, 1));
            case 5 -> t.parts.forEach(this::giveValue);
            default -> {
                int n = random.nextInt(t.parts.size());
                give(chance(2) ? t.parts.size() : n);
                giveValue(t.parts.get(n));
            }
        }
    }

    private int placeFor(Model.Laid t) {
        if (t == null || chance(10)) return odd(100);
        int room = (96 - t.size) / t.align + 1;
        return random.nextInt(room) * t.align;
    }

    private void writing() {
        int s = odd(8);
        int u = with(s);
        Model.Laid t = model.laidOrNull(s, u);
        int place = placeFor(t);
        same("drop()", x.drop(), model.drop());
        if (t != null) giveValue(t);
        if (chance(5)) give(random.nextInt(3));
        String asked = "(" + s + ", " + u + ", " + place + ")";
        same("write" + asked, x.write(s, u, place), model.write(s, u, place));
        for (int i = 0; t != null && i < t.size && i < 12; i++) {
            same("peek(" + (place + i) + ")", x.peek(place + i), model.peek(place + i));
        }
        if (chance(30)) {
            int p = Math.min(95, Math.max(0, place + random.nextInt(8)));
            int v = random.nextInt(12);
            same("poke(" + p + ", " + v + ")", x.poke(p, v), model.poke(p, v));
        }
        if (chance(70)) readAt(s, u, place);
    }

    private void readAt(int s, int u, int place) {
        String asked = "(" + s + ", " + u + ", " + place + ")";
        same("which" + asked, x.which(s, u, place), model.which(s, u, place));
        same("read" + asked, x.read(s, u, place), model.read(s, u, place));
        for (int i = -1; i < 6 && i <= model.list.size(); i++) same("given(" + i + ")", x.given(i), model.given(i));
    }

    private void reading() {
        int s = odd(8);
        int u = with(s);
        readAt(s, u, placeFor(model.laidOrNull(s, u)));
    }

    private void poking() {
        int p = odd(96);
        int v = chance(60) ? random.nextInt(10) : odd(256);
        same("poke(" + p + ", " + v + ")", x.poke(p, v), model.poke(p, v));
        same("peek(" + p + ")", x.peek(p), model.peek(p));
    }

    private void listing() {
        if (chance(20)) same("drop()", x.drop(), model.drop());
        give(chance(20) ? random.nextLong() : random.nextInt(3));
        int i = odd(64) - 1;
        same("given(" + i + ")", x.given(i), model.given(i));
    }

    private void imaging() {
        int k = odd(2);
        if (chance(50)) same("image(" + k + ")", x.image(k), model.image(k));
        else same("restore(" + k + ")", x.restore(k), model.restore(k));
    }

    private void telling() {
        int what = chance(50) ? random.nextInt(30) : 90 + random.nextInt(860);
        if (chance(5)) what = ODD[random.nextInt(ODD.length)];
        same("told(" + what + ")", x.told(what), model.told(what));
    }
}
