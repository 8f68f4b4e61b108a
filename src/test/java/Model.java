import java.math.BigInteger;
import java.util.ArrayDeque;
import java.util.ArrayList;
import java.util.Deque;
import java.util.List;
import java.util.NoSuchElementException;
import java.util.regex.Matcher;
import java.util.regex.Pattern;

/**
 * The document once more, by its definitions and with no short cuts: a FALL by a second balance, a DOUBT by
 * what flows, a BRIDGE by taking it away. Slow, with objects as it likes; LevelRings is held against it.
 */
final class Model {
    static final long NONE = -1;
    static final long HIDDEN = -1000000;

    record Frac(BigInteger above, BigInteger below) {
        static final Frac ZERO = of(0);

        Frac {
            if (below.signum() < 0) {
                above = above.negate();
                below = below.negate();
            }
            BigInteger g = above.gcd(below);
            above = above.divide(g);
            below = below.divide(g);
        }

        static Frac of(long n) {
            return new Frac(BigInteger.valueOf(n), BigInteger.ONE);
        }

        Frac plus(Frac o) {
            return new Frac(above.multiply(o.below).add(o.above.multiply(below)), below.multiply(o.below));
        }

        Frac minus(Frac o) {
            return plus(new Frac(o.above.negate(), o.below));
        }

        Frac times(Frac o) {
            return new Frac(above.multiply(o.above), below.multiply(o.below));
        }

        Frac by(Frac o) {
            return new Frac(above.multiply(o.below), below.multiply(o.above));
        }

        int compare(Frac o) {
            return minus(o).above.signum();
        }

        long half(int what) {
            if (what == 0) {
                return above.longValueExact();
            }
            if (what == 1) {
                return below.longValueExact();
            }
            throw new NoSuchElementException();
        }
    }

    record Line(int first, int second, int rise, int weight, boolean sound) {
    }

    /** heights: null for each POINT that is FREE. */
    record Net(List<Integer> heights, List<Line> lines) {
        Net copy() {
            return new Net(new ArrayList<>(heights), new ArrayList<>(lines));
        }
    }

    private final List<Integer> tape = new ArrayList<>();
    private Net net = new Net(new ArrayList<>(), new ArrayList<>());
    private final Deque<Net> acts = new ArrayDeque<>();
    private final Net[] images = new Net[2];
    private int faultKind = 0;
    private int faultRow = -1;

    // ---- the text ----

    long feed(int... five) {
        if (tape.size() + 20 > 540) {
            return NONE;
        }
        for (int n : five) {
            for (int shift = 24; shift >= 0; shift -= 8) {
                tape.add(n >> shift & 255);
            }
        }
        return tape.size();
    }

    boolean end(int n) {
        if (n < 0 || n > tape.size()) {
            return false;
        }
        tape.subList(n, tape.size()).clear();
        return true;
    }

    record Token(String text, int place) {
        boolean isWord() {
            return text.matches("[a-z]{1,7}");
        }

        boolean isNumber() {
            return text.matches("[0-9]{1,2}");
        }

        boolean isName() {
            return isWord() && !List.of("point", "line", "up", "down").contains(text);
        }
    }

    private record Fault(int kind, int place, int row) {
    }

    long net() {
        StringBuilder text = new StringBuilder();
        for (int b : tape) {
            text.append((char) b);
        }
        tape.clear();
        Net told = new Net(new ArrayList<>(), new ArrayList<>());
        List<String> names = new ArrayList<>();
        int[] rows = {0};
        Fault fault = read(tokens(text.toString()), text.length(), told, names, rows);
        if (fault != null) {
            faultKind = fault.kind;
            faultRow = fault.row;
            return -1 - fault.place;
        }
        faultKind = 0;
        faultRow = -1;
        net = told;
        acts.clear();
        return rows[0];
    }

    private static List<Token> tokens(String text) {
        List<Token> found = new ArrayList<>();
        Matcher m = Pattern.compile("[ \n]+|[a-z0-9]+|[\\x00-\\xff]").matcher(text);
        while (m.find()) {
            if (!m.group().isBlank() || m.group().matches("[^ \n]")) {
                if (m.start() < 500) {
                    found.add(new Token(m.group(), m.start()));
                }
            }
        }
        return found;
    }

    /** A ROW's form is a row of signs, one for each TOKEN; what follows a TOKEN is looked up, not called. */
    private static Fault read(List<Token> tokens, int length, Net told, List<String> names, int[] rows) {
        String form = "";
        String sign = "";
        List<Integer> values = new ArrayList<>();
        for (Token t : tokens) {
            String expected = expected(form);
            sign = signOf(t);
            if (expected.equals("N?") && (sign.equals("N"))) {
                boolean known = names.contains(t.text);
                if (form.equals("p") ? known : !known) {
                    return new Fault(3, t.place, rows[0]);
                }
                if (form.equals("lN") && values.get(0) == names.indexOf(t.text)) {
                    return new Fault(3, t.place, rows[0]);
                }
                if (form.equals("p")) {
                    names.add(t.text);
                }
                values.add(names.indexOf(t.text));
                form += "N";
            } else if (!expected.contains(sign)) {
                return new Fault(1, t.place, rows[0]);
            } else if (sign.equals("p") && told.heights.size() == 6
                || sign.equals("l") && told.lines.size() == 11) {
                return new Fault(4, t.place, rows[0]);
            } else if (sign.equals("9")) {
                int n = Integer.parseInt(t.text);
                boolean weight = form.equals("lNNu9") || form.equals("lNNd9");
                if (weight && (n < 1 || n > 4)) {
                    return new Fault(2, t.place, rows[0]);
                }
                values.add(form.endsWith("d") ? -n : n);
                form += "9";
            } else if (sign.equals(";")) {
                if (form.startsWith("p")) {
                    told.heights.add(values.size() > 1 ? values.get(1) : null);
                } else {
                    told.lines.add(new Line(values.get(0), values.get(1), values.get(2), values.get(3), true));
                }
                rows[0]++;
                form = "";
                values.clear();
            } else {
                form += sign;
            }
        }
        if (!form.isEmpty() || length > 500) {
            return new Fault(1, Math.min(500, length), rows[0]);
        }
        return null;
    }

    private static String signOf(Token t) {
        switch (t.text) {
            case "point": return "p";
            case "line": return "l";
            case "up": return "u";
            case "down": return "d";
            case ";": return ";";
            default: return t.isName() ? "N" : t.isNumber() ? "9" : "!";
        }
    }

    private static String expected(String form) {
        switch (form) {
            case "": return "pl";
            case "p": case "l": case "lN": return "N?";
            case "pN": return "ud;";
            case "lNN": return "ud";
            case "pNu": case "pNd": case "lNNu": case "lNNd": case "lNNu9": case "lNNd9": return "9";
            default: return ";";
        }
    }

    long fault(int what) {
        return what == 0 ? faultKind : what == 1 ? faultRow : NONE;
    }

    // ---- what is TIED ----

    private static boolean isFixed(Net n, int p) {
        return n.heights.get(p) != null;
    }

    /** Whether p and q are TIED by those of the LINES that bits tells. */
    private static boolean tied(Net n, int bits, int p, int q) {
        boolean[] seen = new boolean[n.heights.size()];
        Deque<Integer> open = new ArrayDeque<>(List.of(p));
        while (!open.isEmpty()) {
            int at = open.pop();
            if (seen[at]) {
                continue;
            }
            seen[at] = true;
            for (int l = 0; l < n.lines.size(); l++) {
                Line line = n.lines.get(l);
                if ((bits >> l & 1) == 1 && line.first == at) {
                    open.push(line.second);
                }
                if ((bits >> l & 1) == 1 && line.second == at) {
                    open.push(line.first);
                }
            }
            for (int r = 0; r < n.heights.size(); r++) {
                if (isFixed(n, at) && isFixed(n, r)) {
                    open.push(r);
                }
            }
        }
        return seen[q];
    }

    private static int soundBits(Net n) {
        int bits = 0;
        for (int l = 0; l < n.lines.size(); l++) {
            bits |= n.lines.get(l).sound ? 1 << l : 0;
        }
        return bits;
    }

    private static int partOf(Net n, int p) {
        for (int q = 0; q < p; q++) {
            if (tied(n, soundBits(n), p, q)) {
                return q;
            }
        }
        return p;
    }

    private static boolean isRoot(Net n, int p) {
        for (int q = 0; q < n.heights.size(); q++) {
            if (isFixed(n, q) && tied(n, soundBits(n), p, q)) {
                return false;
            }
        }
        return partOf(n, p) == p;
    }

    private static int treeOf(Net n) {
        int tree = 0;
        for (int l = 0; l < n.lines.size(); l++) {
            Line line = n.lines.get(l);
            if (line.sound && !tied(n, tree, line.first, line.second)) {
                tree |= 1 << l;
            }
        }
        return tree;
    }

    private static boolean isBridge(Net n, int l) {
        Line line = n.lines.get(l);
        return line.sound && !tied(n, soundBits(n) & ~(1 << l), line.first, line.second);
    }

    // ---- the least SUM ----

    private static List<Frac> heightsOf(Net n) {
        int count = n.heights.size();
        Frac[][] m = new Frac[count][count + 1];
        for (int p = 0; p < count; p++) {
            java.util.Arrays.fill(m[p], Frac.ZERO);
            if (isFixed(n, p) || isRoot(n, p)) {
                m[p][p] = Frac.of(1);
                m[p][count] = Frac.of(isFixed(n, p) ? n.heights.get(p) : 0);
                continue;
            }
            for (Line line : n.lines) {
                if (line.sound && (line.first == p || line.second == p)) {
                    int other = line.first == p ? line.second : line.first;
                    int rise = line.first == p ? -line.rise : line.rise;
                    m[p][p] = m[p][p].plus(Frac.of(line.weight));
                    m[p][other] = m[p][other].minus(Frac.of(line.weight));
                    m[p][count] = m[p][count].plus(Frac.of(line.weight * rise));
                }
            }
        }
        return solved(m);
    }

    private static List<Frac> solved(Frac[][] m) {
        int n = m.length;
        for (int k = 0; k < n; k++) {
            int pivot = k;
            while (m[pivot][k].compare(Frac.ZERO) == 0) {
                pivot++;
            }
            Frac[] row = m[pivot];
            m[pivot] = m[k];
            m[k] = row;
            for (int i = 0; i < n; i++) {
                Frac factor = m[i][k].by(m[k][k]);
                for (int j = 0; j <= n && i != k; j++) {
                    m[i][j] = m[i][j].minus(factor.times(m[k][j]));
                }
            }
        }
        List<Frac> answer = new ArrayList<>();
        for (int i = 0; i < n; i++) {
            answer.add(m[i][n].by(m[i][i]));
        }
        return answer;
    }

    private static Frac offOf(Net n, int l) {
        Line line = n.lines.get(l);
        List<Frac> h = heightsOf(n);
        return h.get(line.second).minus(h.get(line.first)).minus(Frac.of(line.rise));
    }

    private static Frac sumOf(Net n) {
        Frac sum = Frac.ZERO;
        List<Frac> h = heightsOf(n);
        for (Line line : n.lines) {
            if (line.sound) {
                Frac off = h.get(line.second).minus(h.get(line.first)).minus(Frac.of(line.rise));
                sum = sum.plus(Frac.of(line.weight).times(off).times(off));
            }
        }
        return sum;
    }

    private static Net without(Net n, int l) {
        Net copy = n.copy();
        Line o = n.lines.get(l);
        copy.lines.set(l, new Line(o.first, o.second, o.rise, o.weight, false));
        return copy;
    }

    private static Frac fallOf(Net n, int l) {
        return sumOf(n).minus(sumOf(without(n, l)));
    }

    private static int blunderOf(Net n) {
        int greatest = -1;
        Frac most = Frac.ZERO;
        for (int l = 0; l < n.lines.size(); l++) {
            if (n.lines.get(l).sound && fallOf(n, l).compare(most) > 0) {
                greatest = l;
                most = fallOf(n, l);
            }
        }
        return greatest;
    }

    /** What flows from p to q along LINES as wires that lead by their WEIGHTS costs least. */
    private static Frac doubtOf(Net n, int p, int q) {
        int count = n.heights.size();
        int ground = -1;
        for (int r = count - 1; r >= 0; r--) {
            ground = isFixed(n, r) ? r : ground;
        }
        int from = isFixed(n, p) ? ground : p;
        int to = isFixed(n, q) ? ground : q;
        if (from == to) {
            return Frac.ZERO;
        }
        Frac[][] m = new Frac[count][count + 1];
        for (int r = 0; r < count; r++) {
            java.util.Arrays.fill(m[r], Frac.ZERO);
            boolean known = r == to || isFixed(n, r) && r != ground
                || !tied(n, soundBits(n), r, to) && partOf(n, r) == r;
            if (known) {
                m[r][r] = Frac.of(1);
                continue;
            }
            m[r][count] = Frac.of(r == from ? 1 : 0);
            for (Line line : n.lines) {
                int a = isFixed(n, line.first) ? ground : line.first;
                int b = isFixed(n, line.second) ? ground : line.second;
                if (line.sound && a != b && (a == r || b == r)) {
                    m[r][r] = m[r][r].plus(Frac.of(line.weight));
                    int other = a == r ? b : a;
                    m[r][other] = m[r][other].minus(Frac.of(line.weight));
                }
            }
        }
        List<Frac> level = solved(m);
        Frac cost = Frac.ZERO;
        for (Line line : n.lines) {
            int a = isFixed(n, line.first) ? ground : line.first;
            int b = isFixed(n, line.second) ? ground : line.second;
            if (line.sound) {
                Frac flow = level.get(a).minus(level.get(b)).times(Frac.of(line.weight));
                cost = cost.plus(flow.times(flow).by(Frac.of(line.weight)));
            }
        }
        return cost;
    }

    // ---- RINGS, by walking ----

    private record Way(int bits, int rise) {
    }

    private static Way wayOf(Net n, int from, int to, int seen) {
        if (from == to) {
            return new Way(0, 0);
        }
        int tree = treeOf(n);
        for (int l = 0; l < n.lines.size(); l++) {
            Line line = n.lines.get(l);
            if ((tree >> l & 1) == 0 || line.first != from && line.second != from) {
                continue;
            }
            int other = line.first == from ? line.second : line.first;
            if ((seen >> other & 1) == 0) {
                Way rest = wayOf(n, other, to, seen | 1 << other);
                if (rest != null) {
                    int rise = line.first == from ? line.rise : -line.rise;
                    return new Way(rest.bits | 1 << l, rest.rise + rise);
                }
            }
        }
        for (int r = 0; r < n.heights.size() && isFixed(n, from); r++) {
            if (isFixed(n, r) && (seen >> r & 1) == 0) {
                Way rest = wayOf(n, r, to, seen | 1 << r);
                if (rest != null) {
                    return new Way(rest.bits, rest.rise + n.heights.get(r) - n.heights.get(from));
                }
            }
        }
        return null;
    }

    private boolean hasRing(int l) {
        return isLine(l) && net.lines.get(l).sound && (treeOf(net) >> l & 1) == 0;
    }

    long rings() {
        return Integer.bitCount(soundBits(net) & ~treeOf(net));
    }

    long ring(int l) {
        if (!hasRing(l)) {
            return NONE;
        }
        Line line = net.lines.get(l);
        return wayOf(net, line.first, line.second, 1 << line.first).bits;
    }

    long closes(int l) {
        if (!hasRing(l)) {
            return HIDDEN;
        }
        Line line = net.lines.get(l);
        return line.rise - wayOf(net, line.first, line.second, 1 << line.first).rise;
    }

    long worst() {
        long worst = NONE;
        for (int l = net.lines.size() - 1; l >= 0; l--) {
            if (hasRing(l) && (worst == NONE || Math.abs(closes(l)) >= Math.abs(closes((int) worst)))) {
                worst = l;
            }
        }
        return worst;
    }

    // ---- what is asked ----

    private boolean isPoint(int p) {
        return p >= 0 && p < net.heights.size();
    }

    private boolean isLine(int l) {
        return l >= 0 && l < net.lines.size();
    }

    private static void need(boolean holds) {
        if (!holds) {
            throw new NoSuchElementException();
        }
    }

    private void needSound(int l, int what) {
        need(isLine(l) && net.lines.get(l).sound && (what == 0 || what == 1));
    }

    long point(int p, int what) {
        need(isPoint(p));
        switch (what) {
            case 0: return isFixed(net, p) ? 1 : 0;
            case 1: return isFixed(net, p) ? net.heights.get(p) : HIDDEN;
            case 2: return partOf(net, p);
            case 3: return isRoot(net, p) ? 1 : 0;
            case 4: return net.lines.stream().filter(o -> o.sound && (o.first == p || o.second == p)).count();
            default: throw new NoSuchElementException();
        }
    }

    long line(int l, int what) {
        need(isLine(l));
        Line line = net.lines.get(l);
        switch (what) {
            case 0: return line.first;
            case 1: return line.second;
            case 2: return line.rise;
            case 3: return line.weight;
            case 4: return line.sound ? 1 : 0;
            case 5: return treeOf(net) >> l & 1;
            case 6: return isBridge(net, l) ? 1 : 0;
            default: throw new NoSuchElementException();
        }
    }

    long height(int p, int what) {
        need(isPoint(p));
        return heightsOf(net).get(p).half(what);
    }

    long rounded(int p) {
        if (!isPoint(p)) {
            return HIDDEN;
        }
        Frac h = heightsOf(net).get(p).plus(new Frac(BigInteger.ONE, BigInteger.TWO));
        BigInteger[] parts = h.above.divideAndRemainder(h.below);
        return parts[0].longValueExact() - (parts[1].signum() < 0 ? 1 : 0);
    }

    long off(int l, int what) {
        needSound(l, what);
        return offOf(net, l).half(what);
    }

    long sum(int what) {
        return sumOf(net).half(what);
    }

    long check(int l, int what) {
        needSound(l, what);
        Net other = net.copy();
        for (int p = 0; p < net.heights.size(); p++) {
            other.heights.set(p, isFixed(net, p) ? 0 : null);
        }
        for (int i = 0; i < net.lines.size(); i++) {
            Line o = net.lines.get(i);
            other.lines.set(i, new Line(o.first, o.second, i == l ? -1 : 0, o.weight, o.sound));
        }
        return offOf(other, l).half(what);
    }

    long fall(int l, int what) {
        needSound(l, what);
        return fallOf(net, l).half(what);
    }

    long wanted(int l, int what) {
        needSound(l, what);
        need(!isBridge(net, l));
        Line line = net.lines.get(l);
        List<Frac> h = heightsOf(without(net, l));
        return h.get(line.second).minus(h.get(line.first)).half(what);
    }

    long blunder() {
        return blunderOf(net);
    }

    long doubt(int p, int q, int what) {
        need(isPoint(p) && isPoint(q) && (what == 0 || what == 1));
        need(tied(net, soundBits(net), p, q));
        return doubtOf(net, p, q).half(what);
    }

    long next(int what) {
        long[] best = {NONE, NONE};
        Frac most = Frac.of(-1);
        for (int p = 0; p < net.heights.size(); p++) {
            for (int q = p + 1; q < net.heights.size(); q++) {
                if (tied(net, soundBits(net), p, q) && doubtOf(net, p, q).compare(most) > 0) {
                    most = doubtOf(net, p, q);
                    best = new long[] {p, q};
                }
            }
        }
        return what == 0 || what == 1 ? best[what] : NONE;
    }

    // ---- acts ----

    private void act(Net changed) {
        acts.push(net);
        net = changed;
        while (acts.size() > 8) {
            acts.removeLast();
        }
    }

    private static boolean isHeight(int n) {
        return Math.abs((long) n) <= 99;
    }

    private long change(int l, Line changed) {
        if (net.lines.get(l).equals(changed)) {
            return 1;
        }
        Net copy = net.copy();
        copy.lines.set(l, changed);
        act(copy);
        return 0;
    }

    private long changeHeight(int p, Integer height) {
        if (java.util.Objects.equals(net.heights.get(p), height)) {
            return 1;
        }
        Net copy = net.copy();
        copy.heights.set(p, height);
        act(copy);
        return 0;
    }

    long strike(int l) {
        if (!isLine(l)) {
            return NONE;
        }
        Line o = net.lines.get(l);
        return change(l, new Line(o.first, o.second, o.rise, o.weight, false));
    }

    long mend(int l) {
        if (!isLine(l)) {
            return NONE;
        }
        Line o = net.lines.get(l);
        return change(l, new Line(o.first, o.second, o.rise, o.weight, true));
    }

    long snoop(int n) {
        if (n < 0 || n > 9999) {
            return NONE;
        }
        Net left = net;
        int struck = 0;
        while (blunderOf(left) >= 0 && fallOf(left, blunderOf(left)).compare(Frac.of(n)) > 0) {
            left = without(left, blunderOf(left));
            struck++;
        }
        if (struck > 0) {
            act(left);
        }
        return struck;
    }

    long read(int l, int rise) {
        if (!isLine(l) || !isHeight(rise)) {
            return NONE;
        }
        Line o = net.lines.get(l);
        return change(l, new Line(o.first, o.second, rise, o.weight, o.sound));
    }

    long weigh(int l, int w) {
        if (!isLine(l) || w < 1 || w > 4) {
            return NONE;
        }
        Line o = net.lines.get(l);
        return change(l, new Line(o.first, o.second, o.rise, w, o.sound));
    }

    long add(int first, int second, int rise, int w) {
        if (net.lines.size() == 11 || !isPoint(first) || !isPoint(second) || first == second) {
            return NONE;
        }
        if (!isHeight(rise) || w < 1 || w > 4) {
            return NONE;
        }
        Net copy = net.copy();
        copy.lines.add(new Line(first, second, rise, w, true));
        act(copy);
        return copy.lines.size() - 1;
    }

    long fix(int p, int height) {
        return isPoint(p) && isHeight(height) ? changeHeight(p, height) : NONE;
    }

    long free(int p) {
        return isPoint(p) ? changeHeight(p, null) : NONE;
    }

    long drawn(int n, int seed) {
        if (n < 1 || n > 60) {
            return NONE;
        }
        if (net.lines.isEmpty()) {
            return 0;
        }
        Net copy = net.copy();
        int came = 0;
        int s = seed;
        for (int i = 0; i < n; i++) {
            s = s * 1103515245 + 12345;
            int l = (s >>> 8) % net.lines.size();
            s = s * 1103515245 + 12345;
            int slip = (s >>> 8) % 9 - 4;
            Line o = copy.lines.get(l);
            if (slip != 0 && isHeight(o.rise + slip)) {
                copy.lines.set(l, new Line(o.first, o.second, o.rise + slip, o.weight, o.sound));
                came++;
            }
        }
        if (came > 0) {
            act(copy);
        }
        return came;
    }

    long undo() {
        if (acts.isEmpty()) {
            return NONE;
        }
        net = acts.pop();
        return acts.size();
    }

    boolean image(int k) {
        if (k != 0 && k != 1) {
            return false;
        }
        images[k] = net;
        return true;
    }

    boolean restore(int k) {
        if (k != 0 && k != 1 || images[k] == null) {
            return false;
        }
        net = images[k];
        acts.clear();
        return true;
    }

    long count(int what) {
        int parts = 0;
        for (int p = 0; p < net.heights.size(); p++) {
            parts += partOf(net, p) == p ? 1 : 0;
        }
        int bridges = 0;
        for (int l = 0; l < net.lines.size(); l++) {
            bridges |= isBridge(net, l) ? 1 << l : 0;
        }
        switch (what) {
            case 0: return net.heights.size();
            case 1: return net.lines.size();
            case 2: return Integer.bitCount(soundBits(net));
            case 3: return parts;
            case 4: return bridges;
            case 5: return treeOf(net);
            case 6: return acts.size();
            case 7: return tape.size();
            default: return NONE;
        }
    }
}
