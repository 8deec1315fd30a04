import java.util.ArrayList;
import java.util.List;

/** What is asked of one SHAPE is answered as by a new object, whatever was asked and written of another one before. */
final class AskedBeforeTest {
    private static final int STATE = -3, NO = -5;
    private static final String[] TEXTS = {"0", "1", "4", "b", "e9", "p", "(0)", "(1)", "[0]", "[4]", "[(2b)]", "[[4]]", "[b]",
        "(111111)", "(124124)", "(b(2b)e4)", "(4p(14))", "((1(2(4))))", "[111111]", "[00000e5]", "[2(b2)]", "[4(p4)]", "[0(4b)2]",
        "[[0b]0]", "[0[0p]]", "[(12)(21)4]", "([14][0b]1)", "(A1Ab)", "AAB", "A(A(1b)4)", "[BBB]", "(ABAp)",
        "(AAAAA1", "", "(444444", "((444444)(444444)(444444))", "[1[2[4[(444)(444)]]]]", "A[A[A[A1b]]b]"};
    private static final Due due = new Due("AskedBeforeTest");

    public static void main(String[] args) {
        for (String before : TEXTS) {
            for (String text : TEXTS) same(before, text);
        }
        for (int way = 0; way < 2; way++) eachByItself(way);
        due.is("a FAULT", ask(told(), "(AAAAA1", 0).get(0), NO);
        due.is("OVER", ask(told(), "((444444)(444444)(444444))", 0).get(0), STATE);
        due.end();
    }

    private static Watched told() {
        return Watched.shapes("[0x]", "e3");
    }

    /** Another before it by the other WAY: the same. */
    private static void same(String before, String text) {
        Watched x = told();
        ask(x, before, 1);
        due.holds(text + " behind " + before, ask(x, text, 0).equals(ask(told(), text, 0)));
    }

    /** Asked twice: the same, by each WAY. */
    private static void eachByItself(int way) {
        for (String text : TEXTS) {
            Watched x = told();
            List<Long> once = ask(x, text, way);
            due.holds(text + " by " + way + " again", ask(x, text, way).equals(once));
        }
    }

    /** All that is answered of a text, and what it reads and writes. */
    private static List<Long> ask(Watched x, String text, int way) {
        List<Long> all = new ArrayList<>();
        x.way(way);
        x.tell(2, text);
        x.drop();
        for (int what = 0; what < 7; what++) all.add((long) x.layout(2, -1, what));
        for (int i = 0; i < 6; i++) {
            for (int what = 0; what < 4; what++) all.add((long) x.term(2, -1, i, what));
            all.add((long) x.pattern(2, -1, i));
        }
        for (int what = 0; what < 2; what++) all.add((long) x.variant(2, -1, what));
        all.add((long) x.least(2, -1));
        all.add((long) x.idle(2, -1));
        for (int p = 0; p < 52; p++) x.poke(p, p < 24 ? 1 : 77);
        all.add((long) x.which(2, -1, 0));
        int numbers = x.read(2, -1, 0);
        all.add((long) numbers);
        for (int i = 0; i < numbers; i++) all.add(x.given(i));
        all.add((long) x.write(2, -1, 24));
        for (int p = 24; p < 52; p++) all.add((long) x.peek(p));
        return all;
    }
}
