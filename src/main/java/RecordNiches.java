/** Where the fields of a record lie, and where a variant hides which one it is; ../shared/DOC.md tells it whole. */
public final class RecordNiches {
    public static final int UNKNOWN = -1, OUTSIDE = -2, STATE = -3, FULL = -4, NO = -5, NONE = -6;

    private static final int READY = 0;
    private static final int SHAPES = 8, IMAGES = 2;
    private static final int MOST_SIGNS = 40, MOST_TERMS = 6, MOST_NUMBERS = 60, MEMORY_BYTES = 96;
    private static final int MOST_PARTS = 100, MOST_SIZE = 64, MOST_LETTERS = 500;
    private static final int GREATEST_ALIGN = 4, ANY_ALIGN = 0;
    private static final long GREATEST_NUMBER = 4294967295L;
    private static final int NO_SIGN = 0, NO_ARGUMENT = -1;
    private static final int NOTHING = 0, NUMBER = 1, TRUTH = 2, CHOICE = 3, PLACE = 4, RECORD = 5, VARIANT = 6;
    private static final int ALONE = 0, HIDDEN = 1, TAGGED = 2;
    private static final int REFUSED = 0, GOES_ON = 1, ENDED = 2;

    private final Holding now = new Holding();
    private final Holding[] images = new Holding[IMAGES];
    private final boolean[] kept = new boolean[IMAGES];
    private final Grammar grammar = new Grammar();
    private final Tree tree = new Tree();
    private final Transfer transfer = new Transfer();

    public RecordNiches() {
        for (int k = 0; k < IMAGES; k++) {
            images[k] = new Holding();
        }
    }

    // ---- 1 shapes

    public int say(int shape, int sign) {
        if (!isShape(shape)) return UNKNOWN;
        if (sign < 33 || sign > 126) return OUTSIDE;
        Text text = now.texts[shape];
        if (text.count >= MOST_SIGNS) return FULL;
        text.append(sign);
        return text.count;
    }

    public int wipe(int shape) {
        if (!isShape(shape)) return UNKNOWN;
        int were = now.texts[shape].count;
        now.texts[shape].count = 0;
        return were;
    }

    public int fault(int shape) {
        if (!isShape(shape)) return UNKNOWN;
        Scan scan = grammar.scans[shape];
        scan.run(now, shape);
        return scan.firstFault;
    }

    public int way(int w) {
        if (w < 0 || w > 1) return OUTSIDE;
        int was = now.packing;
        now.packing = w;
        return was;
    }

    // ---- 2 where all lies

    public int layout(int shape, int u, int what) {
        if (!isKnown(shape, u)) return UNKNOWN;
        if (what < 0 || what > 6) return OUTSIDE;
        int refused = prepare(shape, u);
        if (refused != READY) return refused;
        Node root = tree.root();
        if (what == 0) return root.size;
        if (what == 1) return root.align;
        if (what == 6) return tree.count;
        if (root.gapCount == 0) return NONE;
        if (what == 2) return root.gapOffset;
        if (what == 3) return root.gapWidth;
        return what == 4 ? root.gapFirst : root.gapCount;
    }

    public int term(int shape, int u, int i, int what) {
        if (!isKnown(shape, u)) return UNKNOWN;
        if (what < 0 || what > 3) return OUTSIDE;
        int refused = prepare(shape, u);
        if (refused != READY) return refused;
        Node root = tree.root();
        // a TERM that holds no others has a count of 0, so no i is within
        if (i < 0 || i >= root.count) return NONE;
        Node part = root.terms[i];
        if (what == 0) return part.offset;
        if (what == 1) return part.size;
        return what == 2 ? part.align : part.kind;
    }

    public int variant(int shape, int u, int what) {
        if (!isKnown(shape, u)) return UNKNOWN;
        if (what < 0 || what > 1) return OUTSIDE;
        int refused = prepare(shape, u);
        if (refused != READY) return refused;
        Node root = tree.root();
        if (root.kind != VARIANT) return NONE;
        if (what == 0) return root.manner;
        return root.manner == HIDDEN ? root.host : NONE;
    }

    public int pattern(int shape, int u, int i) {
        if (!isKnown(shape, u)) return UNKNOWN;
        int refused = prepare(shape, u);
        if (refused != READY) return refused;
        Node root = tree.root();
        if (root.kind != VARIANT || i < 0 || i >= root.count) return NONE;
        return root.terms[i].mark;
    }

    public int least(int shape, int u) {
        if (!isKnown(shape, u)) return UNKNOWN;
        int refused = prepare(shape, u);
        if (refused != READY) return refused;
        Node root = tree.root();
        if (root.kind != RECORD) return NONE;
        // each SIZE is divided by its ALIGN, so that by falling ALIGN no hole is left but at the end
        int sum = 0;
        for (int i = 0; i < root.count; i++) {
            sum += root.terms[i].size;
        }
        return upTo(sum, root.align);
    }

    public int idle(int shape, int u) {
        if (!isKnown(shape, u)) return UNKNOWN;
        int refused = prepare(shape, u);
        if (refused != READY) return refused;
        return tree.unusedBytes();
    }

    // ---- 3 values

    public int give(long n) {
        if (n < 0 || n > GREATEST_NUMBER) return OUTSIDE;
        if (now.listed >= MOST_NUMBERS) return FULL;
        now.list[now.listed] = n;
        now.listed++;
        return now.listed;
    }

    public int drop() {
        int were = now.listed;
        now.listed = 0;
        return were;
    }

    public long given(int i) {
        if (i == -1) return now.listed;
        if (i < 0 || i >= now.listed) return NONE;
        return now.list[i];
    }

    public int write(int shape, int u, int place) {
        if (!isKnown(shape, u)) return UNKNOWN;
        int refused = prepare(shape, u);
        if (refused != READY) return refused;
        if (!isPlaceForRoot(place)) return OUTSIDE;
        if (!transfer.accepts(tree, now)) return STATE;
        transfer.store(tree, now, place);
        return tree.root().size;
    }

    public int read(int shape, int u, int place) {
        if (!isKnown(shape, u)) return UNKNOWN;
        int refused = prepare(shape, u);
        if (refused != READY) return refused;
        if (!isPlaceForRoot(place)) return OUTSIDE;
        if (!transfer.load(tree, now, place)) return STATE;
        if (transfer.count > MOST_NUMBERS) return FULL;
        for (int i = 0; i < transfer.count; i++) {
            now.list[i] = transfer.numbers[i];
        }
        now.listed = transfer.count;
        return now.listed;
    }

    public int which(int shape, int u, int place) {
        if (!isKnown(shape, u)) return UNKNOWN;
        int refused = prepare(shape, u);
        if (refused != READY) return refused;
        if (!isPlaceForRoot(place)) return OUTSIDE;
        Node root = tree.root();
        if (root.kind != VARIANT) return NONE;
        int chosen = Transfer.chosenAt(root, now, place);
        return chosen < 0 ? STATE : chosen;
    }

    public int poke(int place, int v) {
        if (place < 0 || place >= MEMORY_BYTES || v < 0 || v > 255) return OUTSIDE;
        int was = now.memory[place];
        now.memory[place] = v;
        return was;
    }

    public int peek(int place) {
        if (place < 0 || place >= MEMORY_BYTES) return OUTSIDE;
        return now.memory[place];
    }

    public int image(int k) {
        if (k < 0 || k >= IMAGES) return OUTSIDE;
        images[k].copyFrom(now);
        kept[k] = true;
        return 1;
    }

    public int restore(int k) {
        if (k < 0 || k >= IMAGES) return OUTSIDE;
        if (!kept[k]) return STATE;
        now.copyFrom(images[k]);
        return 1;
    }

    public int told(int what) {
        if (what == 0) return now.packing;
        if (what == 1) return now.listed;
        if (what >= 10 && what < 10 + SHAPES) return now.texts[what - 10].count;
        if (what >= 20 && what < 20 + SHAPES) return now.isOpen(what - 20) ? 1 : 0;
        if (what < 100 || what >= 100 + 100 * SHAPES) return OUTSIDE;
        int sign = now.signAt(what / 100 - 1, what % 100);
        return sign == NO_SIGN ? OUTSIDE : sign;
    }

    // ---- what the calls share

    private static boolean isShape(int shape) {
        return shape >= 0 && shape < SHAPES;
    }

    /** Whether there is such a SHAPE, and u is what it must be asked with. */
    private boolean isKnown(int shape, int u) {
        if (!isShape(shape)) return false;
        if (!now.isOpen(shape)) return u == -1;
        return isShape(u) && !now.isOpen(u);
    }

    /** Makes the tree of a known SHAPE with u: READY, NO, or STATE. */
    private int prepare(int shape, int u) {
        if (!grammar.isWell(now, shape, u)) return NO;
        if (!tree.build(now, grammar, shape, u)) return STATE;
        return tree.settle(now.packing) ? READY : STATE;
    }

    /** Whether what was prepared may lie at a place: asked last, since only the tree tells ALIGN and SIZE. */
    private boolean isPlaceForRoot(int place) {
        Node root = tree.root();
        if (place < 0 || place > MEMORY_BYTES - root.size) return false;
        return upTo(place, root.align) == place;
    }

    /** The first number from n on that an ALIGN (1, 2 or 4, so that a mask will do) divides. */
    private static int upTo(int n, int align) {
        return (n + align - 1) & -align;
    }

    private static boolean isLetter(int sign) {
        return sign >= 'A' && sign < 'A' + SHAPES;
    }

    /** The signs of one SHAPE. */
    private static final class Text {
        final int[] signs = new int[MOST_SIGNS];
        int count;

        void append(int sign) {
            if (count >= MOST_SIGNS) return;
            signs[count] = sign;
            count++;
        }

        int signAt(int place) {
            return place >= 0 && place < count ? signs[place] : NO_SIGN;
        }

        boolean holds(int sign) {
            for (int i = 0; i < count; i++) {
                if (signs[i] == sign) return true;
            }
            return false;
        }

        void copyFrom(Text other) {
            System.arraycopy(other.signs, 0, signs, 0, MOST_SIGNS);
            count = other.count;
        }
    }

    /** All that an IMAGE keeps. */
    private static final class Holding {
        final Text[] texts = new Text[SHAPES];
        final long[] list = new long[MOST_NUMBERS];
        final int[] memory = new int[MEMORY_BYTES];
        int listed;
        int packing;

        Holding() {
            for (int s = 0; s < SHAPES; s++) {
                texts[s] = new Text();
            }
        }

        void copyFrom(Holding other) {
            for (int s = 0; s < SHAPES; s++) {
                texts[s].copyFrom(other.texts[s]);
            }
            System.arraycopy(other.list, 0, list, 0, MOST_NUMBERS);
            System.arraycopy(other.memory, 0, memory, 0, MEMORY_BYTES);
            listed = other.listed;
            packing = other.packing;
        }

        boolean isOpen(int shape) {
            return isShape(shape) && texts[shape].holds('x');
        }

        int signAt(int shape, int place) {
            return isShape(shape) ? texts[shape].signAt(place) : NO_SIGN;
        }

        /** Puts a number into so many bytes, the least one first. */
        void putNumber(int place, int width, long number) {
            for (int i = 0; i < width; i++) {
                int at = place + i;
                if (at >= 0 && at < MEMORY_BYTES) memory[at] = (int) (number >> (8 * i)) & 255;
            }
        }

        long numberAt(int place, int width) {
            long number = 0;
            for (int i = 0; i < width; i++) {
                int at = place + i;
                if (at >= 0 && at < MEMORY_BYTES) number |= (long) memory[at] << (8 * i);
            }
            return number;
        }
    }

    /** One text gone through, sign by sign: THE FAULT, and where each TERM ends. */
    private static final class Scan {
        int firstFault;
        private final int[] ends = new int[MOST_SIGNS];
        // the TERMS that are begun and not ended: their first signs, where these are, how many TERMS they hold already
        private final int[] openers = new int[MOST_SIGNS];
        private final int[] begun = new int[MOST_SIGNS];
        private final int[] held = new int[MOST_SIGNS];
        private int depth;

        void run(Holding holding, int shape) {
            Text text = holding.texts[shape];
            depth = 0;
            for (int place = 0; place < text.count; place++) {
                int taken = take(holding, shape, place, text.signs[place]);
                if (taken == REFUSED) {
                    firstFault = place;
                    return;
                }
                if (taken == ENDED) endTerms(place + 1);
            }
            firstFault = text.count > 0 && depth == 0 ? NONE : text.count;
        }

        /** The place behind the TERM that begins at a place. */
        int behind(int place) {
            return place >= 0 && place < MOST_SIGNS ? ends[place] : MOST_SIGNS;
        }

        /** Whether the sign at a place ends the TERM begun last, goes on with it or begins one in it, or is REFUSED. */
        private int take(Holding holding, int shape, int place, int sign) {
            if (depth == 0) return place == 0 ? begin(holding, shape, place, sign) : REFUSED;
            int opener = openers[depth - 1];
            if (opener == 'e') return sign >= '2' && sign <= '9' ? ENDED : REFUSED;
            if (isLetter(opener)) return begin(holding, shape, place, sign);
            if (sign == (opener == '(' ? ')' : ']')) return held[depth - 1] > 0 ? ENDED : REFUSED;
            return held[depth - 1] < MOST_TERMS ? begin(holding, shape, place, sign) : REFUSED;
        }

        private int begin(Holding holding, int shape, int place, int sign) {
            if (depth >= MOST_SIGNS) return REFUSED;
            openers[depth] = sign;
            begun[depth] = place;
            held[depth] = 0;
            depth++;
            switch (sign) {
                case '0':
                case '1':
                case '2':
                case '4':
                case 'b':
                case 'p':
                case 'x':
                    return ENDED;
                case 'e':
                case '(':
                case '[':
                    return GOES_ON;
                default:
                    if (!isLetter(sign) || sign - 'A' >= shape) return REFUSED;
                    return holding.texts[sign - 'A'].holds('x') ? GOES_ON : ENDED;
            }
        }

        /** Ends the TERM begun last, and with it those letters that it stands behind; what is around holds one more. */
        private void endTerms(int end) {
            if (depth == 0) return;
            depth--;
            ends[begun[depth]] = end;
            while (depth > 0 && isLetter(openers[depth - 1])) {
                depth--;
                ends[begun[depth]] = end;
            }
            if (depth > 0) held[depth - 1]++;
        }
    }

    /** The texts gone through. */
    private static final class Grammar {
        final Scan[] scans = new Scan[SHAPES];
        private final boolean[] needed = new boolean[SHAPES];

        Grammar() {
            for (int s = 0; s < SHAPES; s++) {
                scans[s] = new Scan();
            }
        }

        /** Whether the SHAPE, u, and all whose letters are in them have no FAULT; their scans stand then. */
        boolean isWell(Holding holding, int shape, int u) {
            for (int s = 0; s < SHAPES; s++) {
                needed[s] = s == shape || s == u;
            }
            // without a FAULT a letter is of a lesser number, so that none is needed after its turn
            for (int s = SHAPES - 1; s >= 0; s--) {
                if (!needed[s]) continue;
                scans[s].run(holding, s);
                if (scans[s].firstFault != NONE) return false;
                for (int lesser = 0; lesser < s; lesser++) {
                    if (holding.texts[s].holds('A' + lesser)) needed[lesser] = true;
                }
            }
            return true;
        }

        int behind(int shape, int place) {
            return isShape(shape) ? scans[shape].behind(place) : MOST_SIGNS;
        }
    }

    /** A TERM that is no letter and no x, where it lies in what is around it, and its GAP (gapCount 0: none). */
    private static final class Node {
        final Node[] terms = new Node[MOST_TERMS];
        int count;
        Node parent;
        int number;
        int kind;
        int size, align, offset;
        int gapOffset, gapWidth, gapFirst, gapCount;
        int manner, host;
        // what tells this TERM of a VARIANT apart: its PATTERN, its byte in front, or NONE
        int mark;
        // where it lies in the whole; whether it is in the VALUE at hand, and which TERM of it is
        int base, chosen;
        boolean live;

        void reset(Node around) {
            count = 0;
            parent = around;
            mark = NONE;
            if (around == null || around.count >= MOST_TERMS) return;
            number = around.count;
            around.terms[number] = this;
            around.count++;
        }

        void be(int what, int bytes) {
            kind = what;
            size = bytes;
            align = bytes == 0 ? 1 : bytes;
            setGap(0, 0, 0, 0);
        }

        void setGap(int at, int width, int first, int patterns) {
            gapOffset = at;
            gapWidth = width;
            gapFirst = first;
            gapCount = patterns;
        }

        boolean isNumber() {
            return kind == NUMBER || kind == TRUTH || kind == CHOICE || kind == PLACE;
        }

        /** Whether a VALUE may have this number for the TERM itself. */
        boolean admits(long n) {
            if (kind == VARIANT) return n >= 0 && n < count;
            if (kind == PLACE) return n >= 1 && n <= GREATEST_NUMBER;
            // the patterns of a TRUTH or CHOICE are all that come before its GAP
            if (kind == TRUTH || kind == CHOICE) return n >= 0 && n < gapFirst;
            return n >= 0 && n < 1L << (8 * size);
        }
    }

    /** A SHAPE with all its letters and x gone through: its PARTS, each before those in it. */
    private static final class Tree {
        int count;
        private final Node[] nodes = new Node[MOST_PARTS];
        private final boolean[] used = new boolean[MOST_SIZE];
        // where it is gone on: the text, the place in it, and what stands for the x there
        private int shape, place, argument;
        private int letters;
        // TERMS that stand for an x: the text, the place in it, and what stands for the x there
        private final int[] argumentShape = new int[MOST_LETTERS + 1];
        private final int[] argumentPlace = new int[MOST_LETTERS + 1];
        private final int[] argumentOuter = new int[MOST_LETTERS + 1];
        private int arguments;
        // RECORDS and VARIANTS that are begun and not ended, and where the next TERM of each is told
        private final Node[] openNode = new Node[MOST_PARTS];
        private final int[] openShape = new int[MOST_PARTS];
        private final int[] openPlace = new int[MOST_PARTS];
        private final int[] openArgument = new int[MOST_PARTS];
        private int depth;

        Tree() {
            for (int i = 0; i < MOST_PARTS; i++) {
                nodes[i] = new Node();
            }
        }

        Node root() {
            return nodes[0];
        }

        /** The i-th of the PARTS, for an i less than their count. */
        Node part(int i) {
            return nodes[i];
        }

        /** Makes the PARTS of a SHAPE that is WELL; false: there are too many, or too many letters. */
        boolean build(Holding holding, Grammar grammar, int first, int u) {
            count = 0;
            letters = 0;
            arguments = 0;
            depth = 0;
            goTo(first, 0, u < 0 ? NO_ARGUMENT : keepArgument(u, 0, NO_ARGUMENT));
            if (!grow(holding, null)) return false;
            // each step adds a TERM or ends one
            for (int step = 0; step < 2 * MOST_PARTS && depth > 0; step++) {
                int top = depth - 1;
                int sign = holding.signAt(openShape[top], openPlace[top]);
                if (sign == ')' || sign == ']') {
                    depth--;
                    continue;
                }
                goTo(openShape[top], openPlace[top], openArgument[top]);
                openPlace[top] = grammar.behind(shape, place);
                if (!grow(holding, openNode[top])) return false;
            }
            return depth == 0;
        }

        private void goTo(int toShape, int toPlace, int toArgument) {
            shape = toShape;
            place = toPlace;
            argument = toArgument;
        }

        private int keepArgument(int atShape, int atPlace, int outer) {
            if (arguments > MOST_LETTERS) return NO_ARGUMENT;
            argumentShape[arguments] = atShape;
            argumentPlace[arguments] = atPlace;
            argumentOuter[arguments] = outer;
            arguments++;
            return arguments - 1;
        }

        /** Adds the TERM that is gone on with to what is around it. */
        private boolean grow(Holding holding, Node around) {
            if (!goThroughLetters(holding) || count >= MOST_PARTS) return false;
            Node node = nodes[count];
            count++;
            node.reset(around);
            int sign = holding.signAt(shape, place);
            if (sign == '(' || sign == '[') {
                node.be(sign == '(' ? RECORD : VARIANT, 0);
                openNode[depth] = node;
                openShape[depth] = shape;
                openPlace[depth] = place + 1;
                openArgument[depth] = argument;
                depth++;
                return true;
            }
            return makeLeaf(node, sign, holding.signAt(shape, place + 1));
        }

        private boolean goThroughLetters(Holding holding) {
            for (int step = 0; step <= MOST_LETTERS; step++) {
                int sign = holding.signAt(shape, place);
                if (sign != 'x' && !isLetter(sign)) return true;
                if (letters >= MOST_LETTERS) return false;
                letters++;
                if (sign == 'x') {
                    if (argument < 0 || argument >= arguments) return false;
                    goTo(argumentShape[argument], argumentPlace[argument], argumentOuter[argument]);
                } else {
                    boolean open = holding.isOpen(sign - 'A');
                    goTo(sign - 'A', 0, open ? keepArgument(shape, place + 1, argument) : NO_ARGUMENT);
                }
            }
            return false;
        }

        /** Makes the TERM that holds no others and begins with a sign; false: no TERM begins so. */
        private static boolean makeLeaf(Node node, int sign, int next) {
            switch (sign) {
                case '0':
                    node.be(NOTHING, 0);
                    return true;
                case '1':
                case '2':
                case '4':
                    node.be(NUMBER, sign - '0');
                    return true;
                case 'b':
                    node.be(TRUTH, 1);
                    node.setGap(0, 1, 2, 254);
                    return true;
                case 'e':
                    node.be(CHOICE, 1);
                    node.setGap(0, 1, next - '0', 256 - (next - '0'));
                    return true;
                case 'p':
                    node.be(PLACE, 4);
                    node.setGap(0, 4, 0, 1);
                    return true;
                default:
                    return false;
            }
        }

        /** Lays all PARTS by a WAY; false: one is too large. */
        boolean settle(int packing) {
            // what is in a TERM comes behind it, so from the last one on all in it is laid already
            for (int i = count - 1; i >= 0; i--) {
                Node node = nodes[i];
                if (node.kind == RECORD) Lay.fields(node, packing);
                if (node.kind == VARIANT) Lay.choices(node);
                if (node.size > MOST_SIZE) return false;
            }
            for (int i = 0; i < count; i++) {
                Node node = nodes[i];
                if (node.parent != null) node.base = node.parent.base + node.offset;
            }
            return true;
        }

        int unusedBytes() {
            for (int at = 0; at < MOST_SIZE; at++) {
                used[at] = false;
            }
            for (int i = 0; i < count; i++) {
                Node node = nodes[i];
                if (node.isNumber()) use(node.base, node.size);
                if (node.kind == VARIANT && node.manner == TAGGED) use(node.base, 1);
            }
            int unused = 0;
            for (int at = 0; at < MOST_SIZE && at < nodes[0].size; at++) {
                if (!used[at]) unused++;
            }
            return unused;
        }

        private void use(int from, int width) {
            for (int at = from; at < from + width; at++) {
                if (at >= 0 && at < MOST_SIZE) used[at] = true;
            }
        }
    }

    /** Lays the TERMS of one RECORD or VARIANT, which are laid in themselves already. */
    private static final class Lay {
        static void fields(Node record, int packing) {
            record.align = greatestAlign(record);
            int end = 0;
            if (packing == 0) {
                end = inLine(record, end, ANY_ALIGN);
            } else {
                for (int align = GREATEST_ALIGN; align > 0; align >>= 1) {
                    end = inLine(record, end, align);
                }
            }
            record.size = upTo(end, record.align);
            record.setGap(0, 0, 0, 0);
            for (int i = 0; i < record.count; i++) {
                takeGreaterGap(record, record.terms[i]);
            }
        }

        static void choices(Node variant) {
            variant.align = greatestAlign(variant);
            if (variant.count == 1) {
                alone(variant, variant.terms[0]);
                return;
            }
            int host = 0;
            for (int i = 1; i < variant.count; i++) {
                if (variant.terms[i].size > variant.terms[host].size) host = i;
            }
            if (findsRoom(variant, host)) {
                hide(variant, host);
            } else {
                tag(variant);
            }
        }

        private static int greatestAlign(Node node) {
            int align = 1;
            for (int i = 0; i < node.count; i++) {
                align = Math.max(align, node.terms[i].align);
            }
            return align;
        }

        /** Lays those fields of an ALIGN, as told, from a place on; the end of the last one. */
        private static int inLine(Node record, int from, int align) {
            int end = from;
            for (int i = 0; i < record.count; i++) {
                Node field = record.terms[i];
                if (align != ANY_ALIGN && field.align != align) continue;
                field.offset = upTo(end, field.align);
                end = field.offset + field.size;
            }
            return end;
        }

        private static void takeGreaterGap(Node record, Node field) {
            int at = field.offset + field.gapOffset;
            boolean first = field.gapCount == record.gapCount && at < record.gapOffset;
            if (field.gapCount > record.gapCount || first) {
                record.setGap(at, field.gapWidth, field.gapFirst, field.gapCount);
            }
        }

        private static void alone(Node variant, Node only) {
            variant.manner = ALONE;
            only.offset = 0;
            variant.size = only.size;
            variant.setGap(only.gapOffset, only.gapWidth, only.gapFirst, only.gapCount);
        }

        /** Lays all TERMS beside the GAP of the HOST; false: that can not be. */
        private static boolean findsRoom(Node variant, int hostNumber) {
            Node host = variant.terms[hostNumber];
            if (host.gapCount == 0 || host.gapCount < variant.count - 1) return false;
            for (int i = 0; i < variant.count; i++) {
                Node other = variant.terms[i];
                if (i == hostNumber || other.size <= host.gapOffset) {
                    other.offset = 0;
                    continue;
                }
                other.offset = upTo(host.gapOffset + host.gapWidth, other.align);
                if (other.offset + other.size > host.size) return false;
            }
            return true;
        }

        private static void hide(Node variant, int hostNumber) {
            Node host = variant.terms[hostNumber];
            variant.manner = HIDDEN;
            variant.host = hostNumber;
            variant.size = upTo(host.size, variant.align);
            int next = host.gapFirst;
            for (int i = 0; i < variant.count; i++) {
                if (i == hostNumber) continue;
                variant.terms[i].mark = next;
                next++;
            }
            variant.setGap(host.gapOffset, host.gapWidth, next, host.gapCount - (variant.count - 1));
        }

        private static void tag(Node variant) {
            variant.manner = TAGGED;
            int end = 1;
            for (int i = 0; i < variant.count; i++) {
                Node each = variant.terms[i];
                each.mark = i;
                each.offset = upTo(1, each.align);
                end = Math.max(end, each.offset + each.size);
            }
            variant.size = upTo(end, variant.align);
            variant.setGap(0, 1, variant.count, 256 - variant.count);
        }
    }

    /** VALUES, on their way between the LIST and MEMORY. */
    private static final class Transfer {
        final long[] numbers = new long[MOST_PARTS];
        int count;

        /** Whether the LIST is a VALUE of the tree; its numbers are at hand then. */
        boolean accepts(Tree tree, Holding holding) {
            count = 0;
            for (int i = 0; i < tree.count; i++) {
                Node node = tree.part(i);
                node.live = isLive(node);
                if (!node.live || !hasNumber(node)) continue;
                if (count >= holding.listed || !node.admits(holding.list[count])) return false;
                keep(node, holding.list[count]);
            }
            return count == holding.listed;
        }

        /** Writes the VALUE that was accepted. */
        void store(Tree tree, Holding holding, int place) {
            holding.putNumber(place, tree.root().size, 0);
            int next = 0;
            for (int i = 0; i < tree.count && next < count; i++) {
                Node node = tree.part(i);
                if (!node.live || !hasNumber(node)) continue;
                if (node.kind == VARIANT) {
                    storeMark(node, holding, place + node.base);
                } else {
                    holding.putNumber(place + node.base, node.size, numbers[next]);
                }
                next++;
            }
        }

        /** Reads a VALUE of the tree; false: there is none. */
        boolean load(Tree tree, Holding holding, int place) {
            count = 0;
            for (int i = 0; i < tree.count; i++) {
                Node node = tree.part(i);
                node.live = isLive(node);
                if (!node.live || !hasNumber(node)) continue;
                int at = place + node.base;
                long number = node.kind == VARIANT ? chosenAt(node, holding, at) : holding.numberAt(at, node.size);
                if (!node.admits(number)) return false;
                keep(node, number);
            }
            return true;
        }

        /** Which TERM of a VARIANT lies at a place; -1: the byte in front is none. */
        static int chosenAt(Node variant, Holding holding, int at) {
            if (variant.manner == ALONE) return 0;
            if (variant.manner == TAGGED) {
                int front = (int) holding.numberAt(at, 1);
                return front < variant.count ? front : -1;
            }
            Node host = variant.terms[variant.host];
            long found = holding.numberAt(at + host.gapOffset, host.gapWidth);
            for (int i = 0; i < variant.count; i++) {
                if (i != variant.host && variant.terms[i].mark == found) return i;
            }
            return variant.host;
        }

        private static void storeMark(Node variant, Holding holding, int at) {
            int mark = variant.terms[variant.chosen].mark;
            if (mark == NONE) return;
            if (variant.manner == TAGGED) {
                holding.putNumber(at, 1, mark);
            } else {
                Node host = variant.terms[variant.host];
                holding.putNumber(at + host.gapOffset, host.gapWidth, mark);
            }
        }

        private static boolean isLive(Node node) {
            Node around = node.parent;
            if (around == null) return true;
            return around.live && (around.kind != VARIANT || around.chosen == node.number);
        }

        private static boolean hasNumber(Node node) {
            return node.kind == VARIANT || node.isNumber();
        }

        private void keep(Node node, long number) {
            if (count >= MOST_PARTS) return;
            numbers[count] = number;
            count++;
            if (node.kind == VARIANT) node.chosen = (int) number;
        }
    }
}
