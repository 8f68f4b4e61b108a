import java.util.NoSuchElementException;
import java.util.function.Consumer;
import java.util.function.LongSupplier;
import java.util.function.Supplier;

/** What tests share: NETS to ask, answers held against those that are due, and how many were not. */
abstract class Due {
    static final int NONE = LevelRings.NONE;
    static final int HIDDEN = LevelRings.HIDDEN;
    static final int LEAST = Integer.MIN_VALUE;
    static final int MOST = Integer.MAX_VALUE;

    /** A RING of three LINES that closes by 1, at a FIXED POINT. */
    static final String RING =
        "point a up 10;point b;point c;line a b up 5 1;line b c up 3 1;line a c up 9 1;";
    /** Two LINES between the same POINTS: HEIGHT of b is (4 + 2 * 7) / 3 = 6. */
    static final String PAIR = "point a up 0;point b;line a b up 4 1;line a b up 7 2;";
    /** Two FIXED POINTS, a LINE between them, a FREE one with a LINE to each, one that hangs from it, one alone. */
    static final String FIXED = "point a;point b up 20;point c down 5;point d;point e;"
        + "line b c down 30 2;line c a up 8 1;line b a down 15 3;line d a up 6 4;";

    static int wrong = 0;
    static String where = "";

    static void isWrong(String what) {
        wrong++;
        System.out.println(where + ": " + what);
    }

    static void due(String what, long got, long want) {
        if (got != want) {
            isWrong(what + " answered " + got + ", due is " + want);
        }
    }

    static void due(String what, boolean got, boolean want) {
        if (got != want) {
            isWrong(what + " answered " + got + ", due is " + want);
        }
    }

    static void refuses(String what, LongSupplier call) {
        try {
            isWrong(what + " answered " + call.getAsLong() + ", due is NoSuchElementException");
        } catch (NoSuchElementException e) {
            // as due
        }
    }

    static LevelRings of(String text) {
        LevelRings x = new LevelRings();
        if (Fed.net(x, text) < 0) {
            throw new IllegalStateException(text);
        }
        return x;
    }

    /** How a call tells of a fraction. */
    interface Told {
        long half(int what);
    }

    static void is(String what, Told told, long above, long below) {
        due(what + " above", told.half(0), above);
        due(what + " below", told.half(1), below);
    }

    static void fraction(String what, Told told, long above, long below) {
        is(what, told, above, below);
        for (int other : new int[] {-1, 2, LEAST, MOST}) {
            refuses(what + " by " + other, () -> told.half(other));
        }
    }

    static void reads(String text, int rows) {
        LevelRings x = new LevelRings();
        due("net of '" + text + "'", Fed.net(x, text), rows);
        due("kind of '" + text + "'", x.fault(0), 0);
        due("row of '" + text + "'", x.fault(1), NONE);
    }

    static void faultAt(String text, int kind, int place, int row) {
        LevelRings x = of(PAIR);
        due("net of '" + text + "'", Fed.net(x, text), -1 - place);
        due("kind of '" + text + "'", x.fault(0), kind);
        due("row of '" + text + "'", x.fault(1), row);
        due("POINTS behind '" + text + "'", x.count(0), 2);
        due("tape behind '" + text + "'", x.count(7), 0);
    }

    static String blanks(int n) {
        return " ".repeat(n);
    }

    /** A NET with something in each place that a call could spoil: acts, an image, a FAULT, a tape. */
    static LevelRings busy() {
        LevelRings x = of(FIXED);
        x.strike(1);
        x.image(1);
        x.add(0, 4, -7, 3);
        x.fix(4, 12);
        Fed.net(x, "point a;point a;");
        Fed.feed(x, "point z;");
        return x;
    }

    static void alike(String what, LevelRings got, LevelRings want) {
        String is = Trace.of(got);
        String should = Trace.of(want);
        if (!is.equals(should)) {
            isWrong(what + ": " + is + "\n  due is " + should);
        }
    }

    /** Whether the call leaves all as it is, whether it answers or throws. */
    static void untouched(String what, Supplier<LevelRings> made, Consumer<LevelRings> call) {
        LevelRings x = made.get();
        try {
            call.accept(x);
        } catch (NoSuchElementException e) {
            // a call that throws changes nothing
        }
        alike(what + " changes nothing", x, made.get());
    }

    static void finish(String good) {
        System.out.println(wrong == 0 ? good : wrong + " answers are not as due");
        if (wrong != 0) {
            System.exit(1);
        }
    }
}
