import java.util.function.ToLongFunction;

/**
 * One NET over another one: whatever was there, nothing of it is left behind net(), restore() and undo(). Above all
 * where the NET that comes has none of what the other one has: no FIXED POINT, no LINE, none STRUCK, no POINT at all.
 */
public final class OverTest extends Due {
    private static final String FREE = "point a;point b;point c;line a b up 1 1;line b c up 2 2;line a c up 9 3;";
    private static final String[] TEXTS = {
        "", "point a;", "point a up 5;", "point a up 5;point b down 5;", FREE, RING, PAIR, FIXED,
        "point a up 1;point b up 2;point c up 3;line c a down 7 4;line b c up 99 1;",
        "point f;point e;point d;point c;point b;point a;line a f up 9 4;line a f up 8 3;line f a up 7 2;line b e down 6 1;"
            + "line c d up 5 1;line d e up 4 2;line e f up 3 3;line b c up 2 4;line a c up 1 1;line c f up 0 2;line d b up 1 3;"
    };

    public static void main(String[] args) {
        for (int a = 0; a < TEXTS.length; a++) {
            for (int b = 0; b < TEXTS.length; b++) {
                byNet(TEXTS[a], TEXTS[b]);
                byRestore(TEXTS[a], TEXTS[b]);
            }
            byUndo(TEXTS[a]);
        }
        finish("nothing is left of what was there");
    }

    /** All LINES STRUCK but the first, so that what comes behind has to be SOUND again. */
    private static LevelRings changed(String text) {
        LevelRings x = of(text);
        for (int l = 1; l < x.count(1); l++) {
            x.strike(l);
        }
        x.fix(0, 77);
        x.read(0, 66);
        return x;
    }

    private static void byNet(String ahead, String behind) {
        where = "net() of '" + behind + "' over '" + ahead + "'";
        LevelRings x = changed(ahead);
        Fed.net(x, behind);
        alike("the NET", x, of(behind));
    }

    private static void byRestore(String ahead, String behind) {
        where = "restore() of '" + behind + "' over '" + ahead + "'";
        LevelRings x = of(behind);
        x.image(1);
        Fed.net(x, ahead);
        x.free(0);
        x.strike(0);
        due("restore", x.restore(1), true);
        LevelRings due = of(behind);
        due.image(1);
        alike("the NET", x, due);
    }

    private static void byUndo(String text) {
        undone(text, "strike", x -> x.strike(0));
        undone(text, "read", x -> x.read(0, 98));
        undone(text, "weigh", x -> x.weigh(0, 4) + x.weigh(0, 1));
        undone(text, "add", x -> x.add(1, 0, 13, 2));
        undone(text, "fix", x -> x.fix(x.count(0) - 1, -98));
        undone(text, "free", x -> x.free(0));
        undone(text, "free all", x -> x.free(0) + x.free(1) + x.free(2));
        undone(text, "snoop", x -> x.snoop(0));
        undone(text, "drawn", x -> x.drawn(60, 4));
    }

    /** An act, or some, that may be refused, as a NET has nothing for it: all that came is undone. */
    private static void undone(String text, String what, ToLongFunction<LevelRings> act) {
        where = what + " undone in '" + text + "'";
        LevelRings x = of(text);
        act.applyAsLong(x);
        for (int left = x.count(6) - 1; left >= 0; left--) {
            due("undo", x.undo(), left);
        }
        alike("the NET", x, of(text));
    }
}
