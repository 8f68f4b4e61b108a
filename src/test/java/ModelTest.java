import java.nio.charset.StandardCharsets;
import java.util.Arrays;
import java.util.NoSuchElementException;
import java.util.Random;
import java.util.function.LongSupplier;

/** Runs of drawn calls, each answered by LevelRings and by the Model; an argument tells how many runs. */
public final class ModelTest {
    private static final int NET_RUNS = 1600;
    private static final int TEXT_RUNS = 20000;
    /** What an object answers behind so many calls is free, so none is asked more often. */
    private static final int MOST_CALLS = 512;
    /** More calls than an act with all that is asked behind it, or a text, can come to. */
    private static final int MOST_OF_A_ROUND = 120;
    private static final int[] FAR = {Integer.MIN_VALUE, Integer.MAX_VALUE, -32, 32, 33, 64, -1000000, 256};
    private static int wrong = 0;

    private final Random random;
    private LevelRings x = new LevelRings();
    private Model m = new Model();
    private final StringBuilder run = new StringBuilder();
    private int calls = 0;

    private ModelTest(long seed) {
        random = new Random(seed);
    }

    public static void main(String[] args) {
        int runs = args.length > 0 ? Integer.parseInt(args[0]) : NET_RUNS;
        for (int seed = 0; seed < runs && wrong == 0; seed++) {
            new ModelTest(seed).runNet();
        }
        ModelTest texts = new ModelTest(-1);
        for (int i = 0; i < TEXT_RUNS && wrong == 0; i++) {
            texts.runText();
        }
        System.out.println(wrong == 0 ? "as the model" : wrong + " answers are not as the model's");
        if (wrong != 0) {
            System.exit(1);
        }
    }

    // ---- runs ----

    private void runNet() {
        feed(randomNet());
        same("net()", () -> x.net(), () -> m.net());
        while (hasRoom()) {
            act();
            if (random.nextInt(4) == 0) {
                askAll();
            }
        }
    }

    private boolean hasRoom() {
        return calls + MOST_OF_A_ROUND <= MOST_CALLS;
    }

    private void runText() {
        if (!hasRoom()) {
            x = new LevelRings();
            m = new Model();
            run.setLength(0);
            calls = 0;
        }
        feed(randomText());
        same("net()", () -> x.net(), () -> m.net());
        same("fault(0)", () -> x.fault(0), () -> m.fault(0));
        same("fault(1)", () -> x.fault(1), () -> m.fault(1));
        for (int what = 0; what < 8; what++) {
            int w = what;
            same("count(" + w + ")", () -> x.count(w), () -> m.count(w));
        }
        for (int p = 0; p < 6; p++) {
            int q = p;
            same("point(" + q + ", 1)", () -> x.point(q, 1), () -> m.point(q, 1));
        }
        for (int l = 0; l < 44; l++) {
            int k = l / 4;
            int w = l % 4;
            same("line(" + k + ", " + w + ")", () -> x.line(k, w), () -> m.line(k, w));
        }
    }

    private int near(int from, int to) {
        if (random.nextInt(40) == 0) {
            return FAR[random.nextInt(FAR.length)];
        }
        return random.nextInt(12) == 0 ? from - 1 : from + random.nextInt(to - from + 2);
    }

    private void act() {
        int a = near(0, 10);
        int p = near(0, 5);
        int q = near(0, 5);
        int h = random.nextInt(4) == 0 ? (random.nextBoolean() ? 99 : -99) : near(-99, 99);
        int w = near(1, 4);
        int k = near(0, 1);
        switch (random.nextInt(16)) {
            case 0: same("strike(" + a + ")", () -> x.strike(a), () -> m.strike(a)); break;
            case 1: same("mend(" + a + ")", () -> x.mend(a), () -> m.mend(a)); break;
            case 2: snoop(); break;
            case 3: same("read(" + a + ", " + h + ")", () -> x.read(a, h), () -> m.read(a, h)); break;
            case 4: same("weigh(" + a + ", " + w + ")", () -> x.weigh(a, w), () -> m.weigh(a, w)); break;
            case 5: case 6: case 7:
                same("add(" + p + ", " + q + ", " + h + ", " + w + ")", () -> x.add(p, q, h, w), () -> m.add(p, q, h, w));
                break;
            case 8: same("fix(" + p + ", " + h + ")", () -> x.fix(p, h), () -> m.fix(p, h)); break;
            case 9: same("free(" + p + ")", () -> x.free(p), () -> m.free(p)); break;
            case 10: drawn(); break;
            case 11: case 12: same("undo()", () -> x.undo(), () -> m.undo()); break;
            case 13: same("image(" + k + ")", () -> x.image(k) ? 1 : 0, () -> m.image(k) ? 1 : 0); break;
            case 14: same("restore(" + k + ")", () -> x.restore(k) ? 1 : 0, () -> m.restore(k) ? 1 : 0); break;
            default:
                feed(random.nextInt(3) == 0 ? randomText() : randomNet());
                same("net()", () -> x.net(), () -> m.net());
        }
    }

    private void snoop() {
        int[] bounds = {0, 1, 20, 400, 3000, 9999, 10000, -1};
        int n = bounds[random.nextInt(bounds.length)];
        same("snoop(" + n + ")", () -> x.snoop(n), () -> m.snoop(n));
    }

    private void drawn() {
        int n = near(1, 60);
        int seed = random.nextInt();
        same("drawn(" + n + ", " + seed + ")", () -> x.drawn(n, seed), () -> m.drawn(n, seed));
    }

    private void askAll() {
        same("rings()", () -> x.rings(), () -> m.rings());
        same("worst()", () -> x.worst(), () -> m.worst());
        same("blunder()", () -> x.blunder(), () -> m.blunder());
        for (int i = -1; i <= 8; i++) {
            int what = i;
            same("fault(" + what + ")", () -> x.fault(what), () -> m.fault(what));
            same("count(" + what + ")", () -> x.count(what), () -> m.count(what));
        }
        for (int i = -1; i <= 2; i++) {
            int what = i;
            same("sum(" + what + ")", () -> x.sum(what), () -> m.sum(what));
            same("next(" + what + ")", () -> x.next(what), () -> m.next(what));
        }
        int p = near(0, 5);
        int q = near(0, 5);
        same("rounded(" + p + ")", () -> x.rounded(p), () -> m.rounded(p));
        for (int i = -1; i <= 5; i++) {
            int what = i;
            same("point(" + p + ", " + what + ")", () -> x.point(p, what), () -> m.point(p, what));
        }
        for (int i = -1; i <= 2; i++) {
            int what = i;
            same("height(" + p + ", " + what + ")", () -> x.height(p, what), () -> m.height(p, what));
            same("doubt(" + p + ", " + q + ", " + what + ")", () -> x.doubt(p, q, what), () -> m.doubt(p, q, what));
        }
        askLine(near(0, 10));
    }

    private void askLine(int l) {
        same("ring(" + l + ")", () -> x.ring(l), () -> m.ring(l));
        same("closes(" + l + ")", () -> x.closes(l), () -> m.closes(l));
        for (int i = -1; i <= 7; i++) {
            int what = i;
            same("line(" + l + ", " + what + ")", () -> x.line(l, what), () -> m.line(l, what));
        }
        for (int i = -1; i <= 2; i++) {
            int what = i;
            same("off(" + l + ", " + what + ")", () -> x.off(l, what), () -> m.off(l, what));
            same("check(" + l + ", " + what + ")", () -> x.check(l, what), () -> m.check(l, what));
            same("fall(" + l + ", " + what + ")", () -> x.fall(l, what), () -> m.fall(l, what));
            same("wanted(" + l + ", " + what + ")", () -> x.wanted(l, what), () -> m.wanted(l, what));
        }
    }

    // ---- texts ----

    private String height() {
        int n = random.nextInt(3) == 0 ? 99 : random.nextInt(100);
        return (random.nextBoolean() ? " up " : " down ") + n;
    }

    private String randomNet() {
        StringBuilder text = new StringBuilder();
        int points = 1 + random.nextInt(6);
        boolean heavy = random.nextInt(3) == 0;
        for (int p = 0; p < points; p++) {
            text.append("point ").append((char) ('a' + p));
            text.append(random.nextInt(4) == 0 ? height() : "").append(';');
        }
        int lines = points < 2 ? 0 : random.nextInt(12);
        for (int l = 0; l < lines; l++) {
            int first = random.nextInt(points);
            int second = (first + 1 + random.nextInt(points - 1)) % points;
            text.append("line ").append((char) ('a' + first)).append(' ').append((char) ('a' + second));
            text.append(height()).append(' ').append(heavy ? 4 : 1 + random.nextInt(4)).append(';');
        }
        return text.toString();
    }

    /** A NET with more blanks, often some 500 bytes long, and often with something wrong in it. */
    private String randomText() {
        StringBuilder text = new StringBuilder(randomNet());
        String[] bits = {" ", "\n", ";", "up", "down", "point", "line", "a", "b", "zzzzzzz", "abcdefgh", "0", "5", "04",
            "123", "a1", "1a", "A", "\t", "\0", "\u00ff", "point g;", "line a b up 1 1;", "line a a up 1 1;", "point h up 3;"};
        int changes = random.nextInt(4);
        for (int i = 0; i < changes; i++) {
            int at = random.nextInt(text.length() + 1);
            if (random.nextBoolean()) {
                text.insert(at, bits[random.nextInt(bits.length)]);
            } else {
                int to = Math.min(text.length(), at + 1 + random.nextInt(4));
                text.delete(at, to);
            }
        }
        if (random.nextInt(3) == 0) {
            int aim = 490 + random.nextInt(50);
            int at = Math.max(0, text.lastIndexOf(" ", text.length() - random.nextInt(20)));
            while (text.length() < aim) {
                text.insert(at, random.nextInt(5) == 0 ? '\n' : ' ');
            }
        }
        text.setLength(Math.min(text.length(), 540 - random.nextInt(3)));
        return text.toString();
    }

    private void feed(String text) {
        run.append("\n  text ").append(text.replace("\n", "\\n"));
        byte[] bytes = text.getBytes(StandardCharsets.ISO_8859_1);
        same("end(0)", () -> x.end(0) ? 1 : 0, () -> m.end(0) ? 1 : 0);
        for (int from = 0; from < bytes.length; from += 20) {
            byte[] row = Arrays.copyOfRange(bytes, from, from + 20);
            int[] five = new int[5];
            for (int i = 0; i < 20; i++) {
                five[i / 4] = five[i / 4] << 8 | row[i] & 255;
            }
            same("feed", () -> x.feed(five[0], five[1], five[2], five[3], five[4]), () -> m.feed(five));
        }
        same("end(" + bytes.length + ")", () -> x.end(bytes.length) ? 1 : 0, () -> m.end(bytes.length) ? 1 : 0);
        same("count(7)", () -> x.count(7), () -> m.count(7));
    }

    // ---- comparing ----

    private static String answer(LongSupplier call) {
        try {
            return Long.toString(call.getAsLong());
        } catch (NoSuchElementException e) {
            return "throws";
        }
    }

    private void same(String call, LongSupplier got, LongSupplier due) {
        calls++;
        if (calls > MOST_CALLS) {
            throw new IllegalStateException("more calls than an object is for");
        }
        String is = answer(got);
        String should = answer(due);
        run.append("\n  ").append(call).append(" = ").append(is);
        if (!is.equals(should)) {
            if (wrong == 0) {
                System.out.println(run);
            }
            wrong++;
            System.out.println(call + " answered " + is + ", the model's answer is " + should);
        }
    }
}
