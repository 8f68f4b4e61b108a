import java.util.NoSuchElementException;

/** Levelled lines closed: ../shared/DOC.md tells what every call answers. */
public final class LevelRings {
    public static final int NONE = -1;
    public static final int HIDDEN = -1000000;

    private static final int MOST_POINTS = 6;
    private static final int MOST_LINES = 11;
    private static final int MOST_TAPE = 540;
    private static final int MOST_TEXT = 500;
    private static final int MOST_ACTS = 8;
    private static final int MOST_IMAGES = 2;
    private static final int MOST_HEIGHT = 99;
    private static final int MOST_WEIGHT = 4;
    private static final int MOST_SLIPS = 60;
    private static final int MOST_SNOOP = 9999;
    private static final int FAULT_TOKEN = 1;
    private static final int FAULT_NUMBER = 2;
    private static final int FAULT_NAME = 3;
    private static final int FAULT_MANY = 4;

    private final Reader reader = new Reader();
    private final Tape tape = reader.tape;
    private final Net now = new Net();
    private final Net spare = new Net();
    private final Acts acts = new Acts();
    private final Net[] images = new Net[MOST_IMAGES];
    private int imagesKept = 0;
    private int faultKind = 0;
    private int faultRow = NONE;
    private final Ties ties = new Ties();
    private final Balance balance = new Balance();
    private boolean stale = true;

    public LevelRings() {
        for (int k = 0; k < MOST_IMAGES; k++) {
            images[k] = new Net();
        }
    }

    // ---- the text ----

    public int feed(int a, int b, int c, int d, int e) {
        if (tape.length + 20 > MOST_TAPE) {
            return NONE;
        }
        tape.push(a);
        tape.push(b);
        tape.push(c);
        tape.push(d);
        tape.push(e);
        return tape.length;
    }

    public boolean end(int n) {
        if (n < 0 || n > tape.length) {
            return false;
        }
        tape.length = n;
        return true;
    }

    public int net() {
        boolean whole = reader.readsInto(spare);
        tape.length = 0;
        if (!whole) {
            faultKind = reader.faultKind;
            faultRow = reader.rows;
            return -1 - reader.faultPlace;
        }
        faultKind = 0;
        faultRow = NONE;
        now.copyFrom(spare);
        acts.forget();
        stale = true;
        return reader.rows;
    }

    public int fault(int what) {
        switch (what) {
            case 0: return faultKind;
            case 1: return faultRow;
            default: return NONE;
        }
    }

    // ---- points and lines ----

    public int point(int p, int what) throws NoSuchElementException {
        if (!isPoint(p) || what < 0 || what > 4) {
            throw new NoSuchElementException();
        }
        settle();
        switch (what) {
            case 0: return now.isFixed(p) ? 1 : 0;
            case 1: return now.isFixed(p) ? now.heights[p] : HIDDEN;
            case 2: return ties.part[p];
            case 3: return ties.isRoot(p) ? 1 : 0;
            default: return now.soundLinesAt(p);
        }
    }

    public int line(int l, int what) throws NoSuchElementException {
        if (!isLine(l) || what < 0 || what > 6) {
            throw new NoSuchElementException();
        }
        settle();
        switch (what) {
            case 0: return now.first[l];
            case 1: return now.second[l];
            case 2: return now.rise[l];
            case 3: return now.weight[l];
            case 4: return bit(now.sound, l);
            case 5: return bit(ties.tree, l);
            default: return bit(ties.bridges, l);
        }
    }

    public long height(int p, int what) throws NoSuchElementException {
        if (!isPoint(p) || !isHalf(what)) {
            throw new NoSuchElementException();
        }
        settle();
        return Fractions.half(balance.above[p], balance.below, what);
    }

    public int rounded(int p) {
        if (!isPoint(p)) {
            return HIDDEN;
        }
        settle();
        return (int) Fractions.floor(2 * balance.above[p] + balance.below, 2 * balance.below);
    }

    public long off(int l, int what) throws NoSuchElementException {
        if (!isSoundLine(l) || !isHalf(what)) {
            throw new NoSuchElementException();
        }
        settle();
        return Fractions.half(balance.offAbove(now, l), balance.below, what);
    }

    public long sum(int what) throws NoSuchElementException {
        if (!isHalf(what)) {
            throw new NoSuchElementException();
        }
        settle();
        return Fractions.half(balance.sumAbove(now), balance.below * balance.below, what);
    }

    // ---- rings ----

    public int rings() {
        settle();
        return Integer.bitCount(ties.ringLines);
    }

    public int ring(int l) {
        settle();
        return hasRing(l) ? ties.ringOf(now, l) : NONE;
    }

    public int closes(int l) {
        settle();
        return hasRing(l) ? ties.closingOf(now, l) : HIDDEN;
    }

    public int worst() {
        settle();
        int most = NONE;
        int mostOff = -1;
        for (int l = 0; l < now.lines; l++) {
            if (!hasRing(l)) {
                continue;
            }
            int off = Math.abs(ties.closingOf(now, l));
            if (off > mostOff) {
                most = l;
                mostOff = off;
            }
        }
        return most;
    }

    // ---- how lines check one another ----

    public long check(int l, int what) throws NoSuchElementException {
        if (!isSoundLine(l) || !isHalf(what)) {
            throw new NoSuchElementException();
        }
        settle();
        return Fractions.half(balance.checkAbove(now, l), balance.below, what);
    }

    public long fall(int l, int what) throws NoSuchElementException {
        if (!isSoundLine(l) || !isHalf(what)) {
            throw new NoSuchElementException();
        }
        settle();
        return Fractions.half(balance.fallAbove(now, l), balance.fallBelow(now, l), what);
    }

    public long wanted(int l, int what) throws NoSuchElementException {
        if (!isSoundLine(l) || !isHalf(what)) {
            throw new NoSuchElementException();
        }
        settle();
        if (bit(ties.bridges, l) == 1) {
            throw new NoSuchElementException();
        }
        long check = balance.checkAbove(now, l);
        return Fractions.half(now.rise[l] * check + balance.offAbove(now, l), check, what);
    }

    public int blunder() {
        settle();
        return balance.greatestFall(now);
    }

    // ---- doubt ----

    public long doubt(int p, int q, int what) throws NoSuchElementException {
        if (!isPoint(p) || !isPoint(q) || !isHalf(what)) {
            throw new NoSuchElementException();
        }
        settle();
        if (ties.part[p] != ties.part[q]) {
            throw new NoSuchElementException();
        }
        return Fractions.half(balance.doubtAbove(p, q), balance.below, what);
    }

    public int next(int what) {
        if (what != 0 && what != 1) {
            return NONE;
        }
        settle();
        int answer = NONE;
        long most = -1;
        for (int p = 0; p < now.points; p++) {
            for (int q = p + 1; q < now.points; q++) {
                if (ties.part[p] == ties.part[q] && balance.doubtAbove(p, q) > most) {
                    most = balance.doubtAbove(p, q);
                    answer = what == 0 ? p : q;
                }
            }
        }
        return answer;
    }

    // ---- acts ----

    public int strike(int l) {
        if (!isLine(l)) {
            return NONE;
        }
        if (!isSoundLine(l)) {
            return 1;
        }
        beginAct();
        now.sound &= ~(1 << l);
        return 0;
    }

    public int mend(int l) {
        if (!isLine(l)) {
            return NONE;
        }
        if (isSoundLine(l)) {
            return 1;
        }
        beginAct();
        now.sound |= 1 << l;
        return 0;
    }

    public int snoop(int n) {
        if (n < 0 || n > MOST_SNOOP) {
            return NONE;
        }
        spare.copyFrom(now);
        int struck = 0;
        for (int i = 0; i < MOST_LINES; i++) {
            settle();
            int l = balance.greatestFall(now);
            if (l == NONE || !balance.fallsAbove(now, l, n)) {
                break;
            }
            now.sound &= ~(1 << l);
            stale = true;
            struck++;
        }
        if (struck > 0) {
            acts.push(spare);
        }
        return struck;
    }

    public int read(int l, int rise) {
        if (!isLine(l) || !isHeight(rise)) {
            return NONE;
        }
        if (now.rise[l] == rise) {
            return 1;
        }
        beginAct();
        now.rise[l] = rise;
        return 0;
    }

    public int weigh(int l, int w) {
        if (!isLine(l) || !isWeight(w)) {
            return NONE;
        }
        if (now.weight[l] == w) {
            return 1;
        }
        beginAct();
        now.weight[l] = w;
        return 0;
    }

    public int add(int first, int second, int rise, int w) {
        boolean joins = isPoint(first) && isPoint(second) && first != second;
        if (now.lines >= MOST_LINES || !joins || !isHeight(rise) || !isWeight(w)) {
            return NONE;
        }
        beginAct();
        return now.putLine(first, second, rise, w);
    }

    public int fix(int p, int height) {
        if (!isPoint(p) || !isHeight(height)) {
            return NONE;
        }
        if (now.isFixed(p) && now.heights[p] == height) {
            return 1;
        }
        beginAct();
        now.fixed |= 1 << p;
        now.heights[p] = height;
        return 0;
    }

    public int free(int p) {
        if (!isPoint(p)) {
            return NONE;
        }
        if (!now.isFixed(p)) {
            return 1;
        }
        beginAct();
        now.fixed &= ~(1 << p);
        return 0;
    }

    public int drawn(int n, int seed) {
        if (n < 1 || n > MOST_SLIPS) {
            return NONE;
        }
        if (now.lines <= 0) {
            return 0;
        }
        spare.copyFrom(now);
        int came = 0;
        int s = seed;
        for (int i = 0; i < n; i++) {
            s = seedBehind(s);
            int l = (s >>> 8) % now.lines;
            s = seedBehind(s);
            int slip = (s >>> 8) % 9 - 4;
            if (slip != 0 && isHeight(now.rise[l] + slip)) {
                now.rise[l] += slip;
                came++;
            }
        }
        if (came > 0) {
            acts.push(spare);
            stale = true;
        }
        return came;
    }

    public int undo() {
        if (acts.size <= 0) {
            return NONE;
        }
        acts.popInto(now);
        stale = true;
        return acts.size;
    }

    // ---- images ----

    public boolean image(int k) {
        if (!isImage(k)) {
            return false;
        }
        images[k].copyFrom(now);
        imagesKept |= 1 << k;
        return true;
    }

    public boolean restore(int k) {
        if (!isImage(k) || bit(imagesKept, k) == 0) {
            return false;
        }
        now.copyFrom(images[k]);
        acts.forget();
        stale = true;
        return true;
    }

    public int count(int what) {
        settle();
        switch (what) {
            case 0: return now.points;
            case 1: return now.lines;
            case 2: return Integer.bitCount(now.sound);
            case 3: return ties.parts(now);
            case 4: return ties.bridges;
            case 5: return ties.tree;
            case 6: return acts.size;
            case 7: return tape.length;
            default: return NONE;
        }
    }

    // ---- what the calls share ----

    /** What follows from the NET is worked out once behind each change, not by each call that asks. */
    private void settle() {
        if (stale) {
            ties.settle(now);
            balance.settle(now, ties);
            stale = false;
        }
    }

    /** Keeps the NET for undo(); comes ahead of every change that is sure to happen. */
    private void beginAct() {
        acts.push(now);
        stale = true;
    }

    private boolean isPoint(int p) {
        return p >= 0 && p < now.points;
    }

    private boolean isLine(int l) {
        return l >= 0 && l < now.lines;
    }

    private boolean isSoundLine(int l) {
        return isLine(l) && bit(now.sound, l) == 1;
    }

    private boolean hasRing(int l) {
        return isLine(l) && bit(ties.ringLines, l) == 1;
    }

    private static boolean isHalf(int what) {
        return what == 0 || what == 1;
    }

    private static boolean isHeight(int n) {
        return n >= -MOST_HEIGHT && n <= MOST_HEIGHT;
    }

    private static boolean isWeight(int w) {
        return w >= 1 && w <= MOST_WEIGHT;
    }

    private static boolean isImage(int k) {
        return k >= 0 && k < MOST_IMAGES;
    }

    private static int bit(int bits, int i) {
        return (bits >>> i) & 1;
    }

    private static int seedBehind(int s) {
        return s * 1103515245 + 12345;
    }

    /** The bytes that were fed and not yet read. */
    private static final class Tape {
        final byte[] bytes = new byte[MOST_TAPE];
        int length = 0;

        void push(int four) {
            for (int shift = 24; shift >= 0 && length < MOST_TAPE; shift -= 8) {
                bytes[length] = (byte) (four >>> shift);
                length++;
            }
        }
    }

    /** POINTS and LINES as told, without what follows from them. */
    private static final class Net {
        int points = 0;
        int fixed = 0;
        final int[] heights = new int[MOST_POINTS];
        int lines = 0;
        int sound = 0;
        final int[] first = new int[MOST_LINES];
        final int[] second = new int[MOST_LINES];
        final int[] rise = new int[MOST_LINES];
        final int[] weight = new int[MOST_LINES];

        void clear() {
            points = 0;
            fixed = 0;
            lines = 0;
            sound = 0;
        }

        void copyFrom(Net other) {
            points = other.points;
            fixed = other.fixed;
            lines = other.lines;
            sound = other.sound;
            for (int p = 0; p < points; p++) {
                heights[p] = other.heights[p];
            }
            for (int l = 0; l < lines; l++) {
                first[l] = other.first[l];
                second[l] = other.second[l];
                rise[l] = other.rise[l];
                weight[l] = other.weight[l];
            }
        }

        void putPoint(boolean isFixed, int height) {
            if (points >= MOST_POINTS) {
                return;
            }
            if (isFixed) {
                fixed |= 1 << points;
            }
            heights[points] = height;
            points++;
        }

        int putLine(int from, int to, int rises, int w) {
            if (lines >= MOST_LINES) {
                return NONE;
            }
            int l = lines;
            first[l] = from;
            second[l] = to;
            rise[l] = rises;
            weight[l] = w;
            sound |= 1 << l;
            lines++;
            return l;
        }

        boolean isFixed(int p) {
            return bit(fixed, p) == 1;
        }

        int soundLinesAt(int p) {
            int found = 0;
            for (int l = 0; l < lines; l++) {
                if (bit(sound, l) == 1 && (first[l] == p || second[l] == p)) {
                    found++;
                }
            }
            return found;
        }
    }

    /** The NETS ahead of the latest acts, in a round of places that are used again. */
    private static final class Acts {
        private final Net[] nets = new Net[MOST_ACTS];
        private int top = 0;
        int size = 0;

        Acts() {
            for (int i = 0; i < MOST_ACTS; i++) {
                nets[i] = new Net();
            }
        }

        void push(Net net) {
            nets[top].copyFrom(net);
            top = (top + 1) % MOST_ACTS;
            size = Math.min(size + 1, MOST_ACTS);
        }

        void popInto(Net net) {
            if (size <= 0) {
                return;
            }
            top = (top + MOST_ACTS - 1) % MOST_ACTS;
            size--;
            net.copyFrom(nets[top]);
        }

        void forget() {
            size = 0;
        }
    }

    /** Reads the tape as a NET, one TOKEN after the other, up to the first FAULT. */
    private static final class Reader {
        private static final int END = 0;
        private static final int WORD = 1;
        private static final int NUMBER = 2;
        private static final int SEMICOLON = 3;
        private static final int NO_TOKEN = 4;
        private static final int MOST_LETTERS = 7;
        private static final int MOST_DIGITS = 2;

        final Tape tape = new Tape();
        private final long[] names = new long[MOST_POINTS];
        private final long pointWord = packed("point");
        private final long lineWord = packed("line");
        private final long upWord = packed("up");
        private final long downWord = packed("down");
        private int at = 0;
        private int kind = END;
        private int place = 0;
        private long value = 0;
        private int height = 0;
        int rows = 0;
        int faultKind = 0;
        int faultPlace = 0;

        boolean readsInto(Net net) {
            net.clear();
            at = 0;
            rows = 0;
            // One more ROW than a NET can have is either the end or a FAULT.
            for (int i = 0; i <= MOST_POINTS + MOST_LINES; i++) {
                step();
                if (kind == END) {
                    return tape.length <= MOST_TEXT || fails(FAULT_TOKEN);
                }
                if (!isWord(pointWord) && !isWord(lineWord)) {
                    return fails(FAULT_TOKEN);
                }
                if (!(isWord(pointWord) ? readsPoint(net) : readsLine(net))) {
                    return false;
                }
                rows++;
            }
            return fails(FAULT_MANY);
        }

        private boolean readsPoint(Net net) {
            int p = net.points;
            if (p >= MOST_POINTS) {
                return fails(FAULT_MANY);
            }
            step();
            if (!isName()) {
                return fails(FAULT_TOKEN);
            }
            if (named(p) != NONE) {
                return fails(FAULT_NAME);
            }
            names[p] = value;
            step();
            if (kind == SEMICOLON) {
                net.putPoint(false, 0);
                return true;
            }
            if (!readsHeight() || !readsSemicolon()) {
                return false;
            }
            net.putPoint(true, height);
            return true;
        }

        private boolean readsLine(Net net) {
            if (net.lines >= MOST_LINES) {
                return fails(FAULT_MANY);
            }
            step();
            int first = readsTold(net.points);
            if (first == NONE) {
                return false;
            }
            step();
            int second = readsTold(net.points);
            if (second == NONE) {
                return false;
            }
            if (second == first) {
                return fails(FAULT_NAME);
            }
            step();
            if (!readsHeight()) {
                return false;
            }
            step();
            if (kind != NUMBER) {
                return fails(FAULT_TOKEN);
            }
            int weight = (int) value;
            if (!isWeight(weight)) {
                return fails(FAULT_NUMBER);
            }
            if (!readsSemicolon()) {
                return false;
            }
            net.putLine(first, second, height, weight);
            return true;
        }

        private int readsTold(int points) {
            if (!isName()) {
                fails(FAULT_TOKEN);
                return NONE;
            }
            int p = named(points);
            if (p == NONE) {
                fails(FAULT_NAME);
            }
            return p;
        }

        private boolean readsHeight() {
            boolean up = isWord(upWord);
            if (!up && !isWord(downWord)) {
                return fails(FAULT_TOKEN);
            }
            step();
            if (kind != NUMBER) {
                return fails(FAULT_TOKEN);
            }
            height = up ? (int) value : (int) -value;
            return true;
        }

        private boolean readsSemicolon() {
            step();
            return kind == SEMICOLON || fails(FAULT_TOKEN);
        }

        private boolean isWord(long word) {
            return kind == WORD && value == word;
        }

        private boolean isName() {
            return kind == WORD && value != pointWord && value != lineWord
                && value != upWord && value != downWord;
        }

        private int named(int points) {
            for (int p = 0; p < points && p < MOST_POINTS; p++) {
                if (names[p] == value) {
                    return p;
                }
            }
            return NONE;
        }

        private boolean fails(int fault) {
            faultKind = fault;
            faultPlace = place;
            return false;
        }

        private void step() {
            int stop = Math.min(tape.length, MOST_TEXT);
            while (at < stop && (tape.bytes[at] == ' ' || tape.bytes[at] == '\n')) {
                at++;
            }
            if (at >= stop) {
                kind = END;
                place = stop;
                return;
            }
            place = at;
            if (tape.bytes[at] == ';') {
                kind = SEMICOLON;
                at++;
                return;
            }
            takeWordOrNumber();
        }

        /** Goes past the limit of a text, for a TOKEN that begins ahead of it counts whole. */
        private void takeWordOrNumber() {
            int letters = 0;
            int digits = 0;
            value = 0;
            while (at < tape.length) {
                int sign = tape.bytes[at];
                if (sign >= 'a' && sign <= 'z') {
                    letters++;
                    value = withLetter(value, sign);
                } else if (sign >= '0' && sign <= '9') {
                    digits++;
                    value = value * 10 + (sign - '0');
                } else {
                    break;
                }
                at++;
            }
            if (digits == 0 && letters >= 1 && letters <= MOST_LETTERS) {
                kind = WORD;
            } else if (letters == 0 && digits >= 1 && digits <= MOST_DIGITS) {
                kind = NUMBER;
            } else {
                kind = NO_TOKEN;
            }
        }

        /** Seven letters fit into a long, so that words need no objects of their own. */
        private static long withLetter(long word, int letter) {
            return word * 27 + (letter - 'a' + 1);
        }

        private static long packed(String word) {
            long answer = 0;
            for (int i = 0; i < word.length(); i++) {
                answer = withLetter(answer, word.charAt(i));
            }
            return answer;
        }
    }

    /** PARTS, the TREE, RINGS and BRIDGES. */
    private static final class Ties {
        final int[] part = new int[MOST_POINTS];
        int tree = 0;
        int ringLines = 0;
        int bridges = 0;
        private int fixedPart = NONE;
        /** LINES of the TREE from where its PART's heights are known to a POINT, as bits. */
        private final int[] way = new int[MOST_POINTS];
        /** The height that a POINT has by that way alone. */
        private final int[] climb = new int[MOST_POINTS];

        void settle(Net net) {
            for (int p = 0; p < MOST_POINTS; p++) {
                part[p] = p;
                way[p] = 0;
                climb[p] = 0;
            }
            int fixedPoint = tieFixed(net);
            growTree(net);
            fixedPart = fixedPoint == NONE ? NONE : part[fixedPoint];
            walkTree(net);
            ringLines = net.sound & ~tree;
            int checked = 0;
            for (int l = 0; l < net.lines; l++) {
                if (bit(ringLines, l) == 1) {
                    checked |= ringOf(net, l);
                }
            }
            bridges = tree & ~checked;
        }

        boolean isRoot(int p) {
            return part[p] == p && p != fixedPart;
        }

        int parts(Net net) {
            int found = 0;
            for (int p = 0; p < net.points; p++) {
                if (part[p] == p) {
                    found++;
                }
            }
            return found;
        }

        int ringOf(Net net, int l) {
            return way[net.first[l]] ^ way[net.second[l]];
        }

        int closingOf(Net net, int l) {
            return net.rise[l] - (climb[net.second[l]] - climb[net.first[l]]);
        }

        private int tieFixed(Net net) {
            int least = NONE;
            for (int p = 0; p < net.points; p++) {
                if (net.isFixed(p)) {
                    least = least == NONE ? p : least;
                    part[p] = least;
                }
            }
            return least;
        }

        private void growTree(Net net) {
            tree = 0;
            for (int l = 0; l < net.lines; l++) {
                int a = part[net.first[l]];
                int b = part[net.second[l]];
                if (bit(net.sound, l) == 1 && a != b) {
                    tree |= 1 << l;
                    merge(Math.min(a, b), Math.max(a, b));
                }
            }
        }

        private void merge(int kept, int lost) {
            for (int p = 0; p < MOST_POINTS; p++) {
                if (part[p] == lost) {
                    part[p] = kept;
                }
            }
        }

        private void walkTree(Net net) {
            int known = 0;
            for (int p = 0; p < net.points; p++) {
                if (net.isFixed(p)) {
                    climb[p] = net.heights[p];
                }
                if (net.isFixed(p) || isRoot(p)) {
                    known |= 1 << p;
                }
            }
            // No way has more LINES than there are POINTS, whatever order its LINES come in.
            for (int round = 0; round < net.points; round++) {
                for (int l = 0; l < net.lines; l++) {
                    if (bit(tree, l) == 1) {
                        known = walkLine(net, l, known);
                    }
                }
            }
        }

        private int walkLine(Net net, int l, int known) {
            int first = net.first[l];
            int second = net.second[l];
            if (bit(known, first) == bit(known, second)) {
                return known;
            }
            boolean along = bit(known, first) == 1;
            int from = along ? first : second;
            int to = along ? second : first;
            way[to] = way[from] | 1 << l;
            climb[to] = climb[from] + (along ? net.rise[l] : -net.rise[l]);
            return known | 1 << to;
        }
    }

    /**
     * HEIGHTS by which the SUM is least. All of them have one whole number below (below) that counts
     * trees of the NET by their WEIGHTS, 473088 at most, so that the squares fit into a long too.
     */
    private static final class Balance {
        private static final int MOST_SOUGHT = 5;
        private static final int INVERSE = MOST_SOUGHT;
        private static final int RIGHT = 2 * MOST_SOUGHT;
        private static final int WIDTH = RIGHT + 1;

        private int sought = 0;
        private final int[] rowOf = new int[MOST_POINTS];
        private final long[][] rows = new long[MOST_SOUGHT][WIDTH];
        final long[] above = new long[MOST_POINTS];
        long below = 1;

        void settle(Net net, Ties ties) {
            chooseSought(net, ties);
            for (int i = 0; i < MOST_SOUGHT; i++) {
                for (int j = 0; j < WIDTH; j++) {
                    rows[i][j] = 0;
                }
                rows[i][INVERSE + i] = 1;
            }
            for (int l = 0; l < net.lines; l++) {
                if (bit(net.sound, l) == 1) {
                    long rises = (long) net.weight[l] * net.rise[l];
                    pull(net, net.first[l], net.second[l], net.weight[l], -rises);
                    pull(net, net.second[l], net.first[l], net.weight[l], rises);
                }
            }
            eliminate();
            for (int p = 0; p < net.points; p++) {
                above[p] = rowOf[p] == NONE ? knownHeight(net, p) * below : rows[rowOf[p]][RIGHT];
            }
        }

        long offAbove(Net net, int l) {
            return above[net.second[l]] - above[net.first[l]] - net.rise[l] * below;
        }

        /** Above below * below. */
        long sumAbove(Net net) {
            long sum = 0;
            for (int l = 0; l < net.lines; l++) {
                if (bit(net.sound, l) == 1) {
                    sum += weightedSquare(net, l);
                }
            }
            return sum;
        }

        long checkAbove(Net net, int l) {
            return below - net.weight[l] * doubtAbove(net.first[l], net.second[l]);
        }

        /** By the CHECK one has the FALL, the weighted square of OFF by it, without a second balance. */
        long fallAbove(Net net, int l) {
            return checkAbove(net, l) == 0 ? 0 : weightedSquare(net, l);
        }

        long fallBelow(Net net, int l) {
            long check = checkAbove(net, l);
            return check == 0 ? 1 : check * below;
        }

        boolean fallsAbove(Net net, int l, int n) {
            return fallAbove(net, l) > n * fallBelow(net, l);
        }

        int greatestFall(Net net) {
            int greatest = NONE;
            long mostAbove = 0;
            long mostBelow = 1;
            for (int l = 0; l < net.lines; l++) {
                if (bit(net.sound, l) == 0) {
                    continue;
                }
                long a = fallAbove(net, l);
                long b = fallBelow(net, l);
                if (Fractions.isGreater(a, b, mostAbove, mostBelow)) {
                    greatest = l;
                    mostAbove = a;
                    mostBelow = b;
                }
            }
            return greatest;
        }

        long doubtAbove(int p, int q) {
            return inverse(p, p) + inverse(q, q) - 2 * inverse(p, q);
        }

        private long inverse(int p, int q) {
            return rowOf[p] == NONE || rowOf[q] == NONE ? 0 : rows[rowOf[p]][INVERSE + rowOf[q]];
        }

        private long weightedSquare(Net net, int l) {
            long off = offAbove(net, l);
            return net.weight[l] * off * off;
        }

        private void chooseSought(Net net, Ties ties) {
            sought = 0;
            for (int p = 0; p < MOST_POINTS; p++) {
                rowOf[p] = NONE;
                boolean isSought = p < net.points && !net.isFixed(p) && !ties.isRoot(p);
                if (isSought && sought < MOST_SOUGHT) {
                    rowOf[p] = sought;
                    sought++;
                }
            }
        }

        private static long knownHeight(Net net, int p) {
            return net.isFixed(p) ? net.heights[p] : 0;
        }

        /** What a LINE asks of the height of one of its POINTS; rises is as seen from the other one. */
        private void pull(Net net, int p, int other, long weight, long rises) {
            int row = rowOf[p];
            if (row == NONE) {
                return;
            }
            rows[row][row] += weight;
            rows[row][RIGHT] += rises;
            if (rowOf[other] == NONE) {
                rows[row][RIGHT] += weight * knownHeight(net, other);
            } else {
                rows[row][rowOf[other]] -= weight;
            }
        }

        /** Bareiss: whole numbers stay whole; no row is 0, for all that is sought is TIED to a known height. */
        private void eliminate() {
            below = 1;
            for (int k = 0; k < sought; k++) {
                long pivot = rows[k][k];
                for (int i = 0; i < sought; i++) {
                    if (i != k) {
                        clearColumn(i, k, pivot);
                    }
                }
                below = pivot;
            }
        }

        private void clearColumn(int i, int k, long pivot) {
            long factor = rows[i][k];
            for (int j = 0; j < WIDTH; j++) {
                rows[i][j] = Fractions.quotient(pivot * rows[i][j] - factor * rows[k][j], below);
            }
        }
    }

    /** Fractions as two whole numbers, the one below above 0. */
    private static final class Fractions {
        /** More steps than two longs can need for their greatest common divisor. */
        private static final int MOST_STEPS = 200;

        private Fractions() {
        }

        /** Of the fraction in least terms the number above (0) or below. */
        static long half(long above, long below, int what) {
            return quotient(what == 0 ? above : below, divisor(Math.abs(above), below));
        }

        static long quotient(long a, long b) {
            return b == 0 ? 0 : a / b;
        }

        static long floor(long a, long b) {
            return b == 0 ? 0 : Math.floorDiv(a, b);
        }

        static long divisor(long a, long b) {
            long greater = a;
            long lesser = b;
            for (int i = 0; i < MOST_STEPS && lesser != 0; i++) {
                long rest = greater % lesser;
                greater = lesser;
                lesser = rest;
            }
            return greater;
        }

        /** Whether a/b is above c/d, none below 0; by whole parts, for a * d need not fit into a long. */
        static boolean isGreater(long a, long b, long c, long d) {
            for (int i = 0; i < MOST_STEPS && b > 0 && d > 0; i++) {
                long wholeA = a / b;
                long wholeC = c / d;
                if (wholeA != wholeC) {
                    return wholeA > wholeC;
                }
                long restA = a - wholeA * b;
                long restC = c - wholeC * d;
                if (restA == 0 || restC == 0) {
                    return restA > restC;
                }
                // Of what is left of both the greater one is that whose inverse is the lesser one.
                a = d;
                c = b;
                b = restC;
                d = restA;
            }
            return false;
        }
    }
}
