/** One method for each promise of the document: ordinary inputs, the edges it names, wrong inputs. */
public final class PromisesTest extends Due {
    public static void main(String[] args) {
        Runnable[] promises = {
            PromisesTest::newObject, PromisesTest::feed, PromisesTest::end, PromisesTest::net, PromisesTest::fault,
            PromisesTest::point, PromisesTest::line, PromisesTest::height, PromisesTest::rounded, PromisesTest::off,
            PromisesTest::sum, PromisesTest::rings, PromisesTest::ring, PromisesTest::closes, PromisesTest::worst,
            PromisesTest::check, PromisesTest::fall, PromisesTest::wanted, PromisesTest::blunder, PromisesTest::doubt,
            PromisesTest::next, PromisesTest::strike, PromisesTest::mend, PromisesTest::snoop, PromisesTest::read,
            PromisesTest::weigh, PromisesTest::add, PromisesTest::fix, PromisesTest::free, PromisesTest::drawn,
            PromisesTest::undo, PromisesTest::image, PromisesTest::restore, PromisesTest::count
        };
        for (int i = 0; i < promises.length; i++) {
            where = "promise " + (i + 1);
            promises[i].run();
        }
        finish(promises.length + " promises hold");
    }

    // ---- the promises ----

    private static void newObject() {
        LevelRings x = new LevelRings();
        for (int what = 0; what <= 7; what++) {
            due("count " + what, x.count(what), 0);
        }
        due("undo", x.undo(), NONE);
        due("restore", x.restore(0), false);
        fraction("sum", x::sum, 0, 1);
        due("NONE", LevelRings.NONE, -1);
        due("HIDDEN", LevelRings.HIDDEN, -1000000);
        due("net of an empty tape", x.net(), 0);
    }

    private static void feed() {
        LevelRings x = new LevelRings();
        int poin = 'p' << 24 | 'o' << 16 | 'i' << 8 | 'n';
        int tA = 't' << 24 | ' ' << 16 | 'a' << 8 | ';';
        due("first", x.feed(poin, tA, poin, 't' << 24 | ' ' << 16 | 'b' << 8 | ';', 0x20202020), 20);
        due("rows fed", x.net(), 2);
        for (int i = 1; i <= 27; i++) {
            due("feed " + i, x.feed(0x20202020, 0, 0, 0, -1), 20 * i);
        }
        due("too many", x.feed(0, 0, 0, 0, 0), NONE);
        due("none came", x.count(7), 540);
        x.end(521);
        due("one too many", x.feed(0, 0, 0, 0, 0), NONE);
        due("none came", x.count(7), 521);
        x.end(520);
        due("just as many", x.feed(0, 0, 0, 0, 0), 540);
        x.net();
        due("place of the first 0", Fed.net(x, "    \0"), -5);
    }

    private static void end() {
        LevelRings x = new LevelRings();
        due("none", x.end(0), true);
        due("not so many", x.end(1), false);
        x.feed(0x3b3b3b3b, 0, 0, 0, 0);
        due("more", x.end(21), false);
        due("below 0", x.end(-1), false);
        due("least", x.end(LEAST), false);
        due("most", x.end(MOST), false);
        due("as many", x.end(20), true);
        due("stays", x.count(7), 20);
        due("fewer", x.end(7), true);
        due("so many", x.count(7), 7);
        due("what went is gone", x.end(8), false);
        due("behind it", x.feed(0, 0, 0, 0, 0), 27);
        due("the first ones stay", x.net(), -1);
    }

    private static void net() {
        LevelRings x = new LevelRings();
        due("rows", Fed.net(x, RING), 6);
        due("tape", x.count(7), 0);
        due("POINTS", x.count(0), 3);
        x.strike(0);
        x.image(0);
        due("no TOKEN", Fed.net(x, "point x;point Y;"), -1 - 14);
        due("tape", x.count(7), 0);
        due("stays", x.count(0), 3);
        due("stays STRUCK", x.line(0, 4), 0);
        due("can still be undone", x.count(6), 1);
        due("blanks anywhere", Fed.net(x, "\n point\n\na up 7 ; point b down 08;line a b down 3 2;\n"), 3);
        due("a", x.point(0, 1), 7);
        due("b", x.point(1, 1), -8);
        due("RISE", x.line(0, 2), -3);
        due("nothing can be undone", x.count(6), 0);
        due("the image stays", x.restore(0), true);
        due("no blanks", Fed.net(x, "point abcdefg;point b;"), 2);
        due("blanks alone", Fed.net(x, " \n "), 0);
        due("none", x.count(0), 0);
        due("no LINES are SOUND", x.count(2), 0);
        due("worked out anew", x.count(3), 0);
        due("words of like letters", Fed.net(x, "point ab;point ba;point az;point pu;point enil;line az ab up 1 1;"), 6);
        due("worked out anew", x.count(3), 4);
        due("FIRST", x.line(0, 0), 2);
        due("SECOND", x.line(0, 1), 0);
        due("0 either way", Fed.net(x, "point a down 0;point b up 00;point c up 99;point d down 99;line d c down 0 4;"), 5);
        due("down 0", x.point(0, 1), 0);
        due("FIXED at 0", x.point(0, 0), 1);
        due("up 99", x.point(2, 1), 99);
        due("down 99", x.point(3, 1), -99);
        due("FIRST", x.line(0, 0), 3);
        due("SECOND", x.line(0, 1), 2);
        StringBuilder all = new StringBuilder("point a;point b;point c;point d;point e;point f;");
        for (int i = 0; i < 11; i++) {
            all.append("line a b up ").append(i).append(" 1;");
        }
        due("as many as can be", Fed.net(x, all.toString()), 17);
        due("all SOUND", x.count(2), 11);
        faultAt(all + "line a b up 1 1;", 4, all.length(), 17);
        faultAt(all + "line", 4, all.length(), 17);
        faultAt(all + "\npoint", 4, all.length() + 1, 17);
    }

    private static void fault() {
        LevelRings x = new LevelRings();
        due("kind ahead of any", x.fault(0), 0);
        due("row ahead of any", x.fault(1), NONE);
        Fed.net(x, ";");
        due("kind", x.fault(0), 1);
        due("row", x.fault(1), 0);
        due("another what", x.fault(2), NONE);
        due("another what", x.fault(-1), NONE);
        Fed.net(x, "");
        due("kind without one", x.fault(0), 0);
        due("row without one", x.fault(1), NONE);
        tokenFaults();
        otherFaults();
        longTexts();
    }

    private static void tokenFaults() {
        faultAt("point", 1, 5, 0);
        faultAt("point a  ", 1, 9, 0);
        faultAt("point a;;", 1, 8, 1);
        faultAt("points a;", 1, 0, 0);
        faultAt("a;", 1, 0, 0);
        faultAt("12;", 1, 0, 0);
        faultAt("up 1;", 1, 0, 0);
        faultAt("point abcdefgh;", 1, 6, 0);
        faultAt("point a1;", 1, 6, 0);
        faultAt("point 1a;", 1, 6, 0);
        faultAt("point 1;", 1, 6, 0);
        faultAt("point up;", 1, 6, 0);
        faultAt("point down;", 1, 6, 0);
        faultAt("point point;", 1, 6, 0);
        faultAt("point line;", 1, 6, 0);
        faultAt("point aB;", 1, 7, 0);
        faultAt("point a\tb;", 1, 7, 0);
        faultAt("point a\r;", 1, 7, 0);
        faultAt("point a\u00e9;", 1, 7, 0);
        faultAt("point a up;", 1, 10, 0);
        faultAt("point a up 100;", 1, 11, 0);
        faultAt("point a up b;", 1, 11, 0);
        faultAt("point a up1;", 1, 8, 0);
        faultAt("point a 1;", 1, 8, 0);
        faultAt("point a b;", 1, 8, 0);
        faultAt("point a up 1 2;", 1, 13, 0);
        faultAt("point a;line up", 1, 13, 1);
        faultAt("point a;point b;line a line", 1, 23, 2);
        faultAt("point a;point b;line a b 1 1;", 1, 25, 2);
        faultAt("point a;point b;line a b;", 1, 24, 2);
        faultAt("point a;point b;line a b up 1;", 1, 29, 2);
        faultAt("point a;point b;line a b up 1 a;", 1, 30, 2);
        faultAt("point a;point b;line a b up 1 001;", 1, 30, 2);
        faultAt("point a;point b;line a b up 1 1 1;", 1, 32, 2);
        faultAt("point a;point b;line a b up 1 1", 1, 31, 2);
    }

    private static void otherFaults() {
        faultAt("point a;point b;line a b up 1 0;", 2, 30, 2);
        faultAt("point a;point b;line a b up 1 5;", 2, 30, 2);
        faultAt("point a;point b;line a b up 1 44", 2, 30, 2);
        faultAt("point a;point b;line a b down 1 00;", 2, 32, 2);
        faultAt("point a;point a", 3, 14, 1);
        faultAt("line a b up 1 1;point a;point b;", 3, 5, 0);
        faultAt("point a;line a b up 1 1;point b;", 3, 15, 1);
        faultAt("point a;point b;line a a up 1 1;", 3, 23, 2);
        faultAt("point ab;point b;line a b", 3, 22, 2);
        faultAt("point a;point b;point c;point d;point e;point f;point", 4, 48, 6);
        faultAt("point a;point b;point c;point d;point e;point f; point a", 4, 49, 6);
    }

    private static void longTexts() {
        LevelRings x = new LevelRings();
        due("500 bytes", Fed.net(x, "point a;" + blanks(492)), 1);
        due("500 bytes, the last one counts", Fed.net(x, blanks(492) + "point a;"), 1);
        faultAt("point a;" + blanks(493), 1, 500, 1);
        faultAt(blanks(493) + "point a;", 1, 500, 0);
        faultAt(blanks(540), 1, 500, 0);
        faultAt("point a;" + blanks(492) + "!", 1, 500, 1);
        faultAt("point a;" + blanks(491) + "!" + blanks(9), 1, 499, 1);
        faultAt(blanks(499) + "pointer a;", 1, 499, 0);
        faultAt(blanks(499) + "point a;", 1, 500, 0);
        faultAt("point a" + blanks(493), 1, 500, 0);
        faultAt("point " + blanks(492) + "abcdefgh;", 1, 498, 0);
        faultAt("point " + blanks(492) + "abcdefg;", 1, 500, 0);
        faultAt("point ab;point " + blanks(484) + "ab", 3, 499, 1);
        faultAt("point a up" + blanks(489) + "123", 1, 499, 0);
        faultAt("point a;point b;line a b up 1" + blanks(470) + "12", 2, 499, 2);
    }

    private static void point() {
        LevelRings x = of(FIXED);
        int[][] rows = {
            {0, HIDDEN, 0, 0, 3}, {1, 20, 0, 0, 2}, {1, -5, 0, 0, 2}, {0, HIDDEN, 0, 0, 1}, {0, HIDDEN, 4, 1, 0}
        };
        for (int p = 0; p < 5; p++) {
            for (int what = 0; what < 5; what++) {
                due("point " + p + " " + what, x.point(p, what), rows[p][what]);
            }
        }
        x.free(1);
        x.free(2);
        due("ROOT without a FIXED one", x.point(0, 3), 1);
        x.strike(1);
        x.strike(2);
        due("PART of b", x.point(1, 2), 1);
        due("ROOT", x.point(1, 3), 1);
        due("no ROOT", x.point(2, 3), 0);
        due("PART of c", x.point(2, 2), 1);
        due("PART of d", x.point(3, 2), 0);
        due("SOUND LINES", x.point(0, 4), 1);
        for (int other : new int[] {-1, 5, LEAST, MOST}) {
            refuses("what " + other, () -> x.point(0, other));
            refuses("point " + other, () -> x.point(other, 0));
        }
    }

    private static void line() {
        LevelRings x = of(FIXED);
        int[][] rows = {{1, 2, -30, 2, 1, 0, 0}, {2, 0, 8, 1, 1, 1, 0}, {1, 0, -15, 3, 1, 0, 0}, {3, 0, 6, 4, 1, 1, 1}};
        for (int l = 0; l < 4; l++) {
            for (int what = 0; what < 7; what++) {
                due("line " + l + " " + what, x.line(l, what), rows[l][what]);
            }
        }
        x.strike(1);
        due("STRUCK", x.line(1, 4), 0);
        due("STRUCK, not in the TREE", x.line(1, 5), 0);
        due("STRUCK, no BRIDGE", x.line(1, 6), 0);
        due("now in the TREE", x.line(2, 5), 1);
        due("now a BRIDGE", x.line(2, 6), 1);
        for (int other : new int[] {-1, LEAST, MOST}) {
            refuses("what " + other, () -> x.line(0, other));
            refuses("line " + other, () -> x.line(other, 0));
        }
        refuses("what 7", () -> x.line(0, 7));
        refuses("line 4", () -> x.line(4, 0));
    }

    private static void height() {
        LevelRings x = of(RING);
        fraction("a", w -> x.height(0, w), 10, 1);
        fraction("b", w -> x.height(1, w), 46, 3);
        fraction("c", w -> x.height(2, w), 56, 3);
        refuses("no such one", () -> x.height(3, 0));
        refuses("below 0", () -> x.height(-1, 1));
        LevelRings y = of(FIXED);
        // (1 * (-5 + 8) + 3 * (20 - 15)) / 4
        fraction("between FIXED ones", w -> y.height(0, w), 9, 2);
        fraction("hanging", w -> y.height(3, w), -3, 2);
        fraction("alone", w -> y.height(4, w), 0, 1);
        LevelRings z = of("point a;point b;line b a up 9 1;");
        fraction("ROOT", w -> z.height(0, w), 0, 1);
        fraction("against the LINE", w -> z.height(1, w), -9, 1);
    }

    private static void rounded() {
        LevelRings x = of(RING);
        due("46/3", x.rounded(1), 15);
        due("56/3", x.rounded(2), 19);
        due("10", x.rounded(0), 10);
        due("no such one", x.rounded(3), HIDDEN);
        due("below 0", x.rounded(-1), HIDDEN);
        LevelRings y = of(FIXED);
        due("a half goes up", y.rounded(0), 5);
        due("a half below 0 goes up", y.rounded(3), -1);
        LevelRings z = of("point a;point b;line a b down 4 1;line a b down 5 2;");
        due("-14/3", z.rounded(1), -5);
        z.read(0, -3);
        z.read(1, -3);
        due("-3", z.rounded(1), -3);
    }

    private static void off() {
        LevelRings x = of(PAIR);
        fraction("light", w -> x.off(0, w), 2, 1);
        fraction("heavy", w -> x.off(1, w), -1, 1);
        LevelRings y = of(RING);
        fraction("along", w -> y.off(0, w), 1, 3);
        fraction("the long one", w -> y.off(2, w), -1, 3);
        fraction("between FIXED ones", w -> of(FIXED).off(0, w), 5, 1);
        fraction("BRIDGE", w -> of(FIXED).off(3, w), 0, 1);
        y.strike(2);
        fraction("now on it", w -> y.off(0, w), 0, 1);
        refuses("STRUCK", () -> y.off(2, 0));
        refuses("no such one", () -> y.off(3, 0));
        refuses("below 0", () -> y.off(-1, 0));
    }

    private static void sum() {
        fraction("ring", of(RING)::sum, 1, 3);
        // 1 * 2^2 + 2 * 1^2
        fraction("pair", of(PAIR)::sum, 6, 1);
        // 2 * 5^2 + 1 * (3/2)^2 + 3 * (1/2)^2
        fraction("fixed", of(FIXED)::sum, 53, 1);
        fraction("nothing", new LevelRings()::sum, 0, 1);
        LevelRings x = of(PAIR);
        x.strike(1);
        fraction("STRUCK ones do not count", x::sum, 0, 1);
        LevelRings most = of("point a up 99;point b down 99;");
        for (int i = 0; i < 11; i++) {
            most.add(0, 1, 99, 4);
        }
        fraction("most", most::sum, 11L * 4 * 297 * 297, 1);
    }

    private static void rings() {
        due("none", new LevelRings().rings(), 0);
        LevelRings x = of(RING);
        due("one", x.rings(), 1);
        x.strike(0);
        due("open", x.rings(), 0);
        due("between FIXED ones", of(FIXED).rings(), 2);
    }

    private static void ring() {
        LevelRings x = of(RING);
        due("ring", x.ring(2), 3);
        due("in the TREE", x.ring(0), NONE);
        due("no such one", x.ring(3), NONE);
        due("below 0", x.ring(-1), NONE);
        due("least", x.ring(LEAST), NONE);
        x.strike(2);
        due("STRUCK", x.ring(2), NONE);
        LevelRings y = of(FIXED);
        due("no LINE", y.ring(0), 0);
        due("from a FIXED one to another", y.ring(2), 2);
        due("in the TREE", y.ring(3), NONE);
        LevelRings z = of("point a;point b;point c;point d;line c d up 1 1;line b c up 2 1;line a b up 3 1;"
            + "line b d up 4 1;line d a up 5 1;line a c up 6 1;");
        due("way of two", z.ring(3), 3);
        due("way of three", z.ring(4), 7);
        due("another way of two", z.ring(5), 6);
    }

    private static void closes() {
        LevelRings x = of(RING);
        due("9 - 5 - 3", x.closes(2), 1);
        due("in the TREE", x.closes(0), HIDDEN);
        due("no such one", x.closes(3), HIDDEN);
        due("below 0", x.closes(-1), HIDDEN);
        x.strike(2);
        due("STRUCK", x.closes(2), HIDDEN);
        LevelRings y = of(FIXED);
        due("-30 - (-5 - 20)", y.closes(0), -5);
        due("-15 - (-25 + 8)", y.closes(2), 2);
        y.fix(1, 21);
        due("-15 - (-26 + 8)", y.closes(2), 3);
        LevelRings z = of("point a;point b;point c;line b a up 3 1;line b c up 5 1;line c a up 9 1;");
        due("gone against", z.closes(2), 11);
    }

    private static void worst() {
        due("none", new LevelRings().worst(), NONE);
        due("below 0 counts", of(FIXED).worst(), 0);
        LevelRings x = of("point a;point b;line a b up 3 1;line a b up 5 1;line a b up 1 1;line a b down 1 1;");
        due("most", x.worst(), 3);
        x.strike(3);
        due("of like ones the least", x.worst(), 1);
        x.read(1, 3);
        x.read(2, 3);
        due("by 0 all", x.worst(), 1);
        x.strike(1);
        x.strike(2);
        due("no RING", x.worst(), NONE);
    }

    private static void check() {
        LevelRings x = of(PAIR);
        fraction("light", w -> x.check(0, w), 2, 3);
        fraction("heavy", w -> x.check(1, w), 1, 3);
        fraction("ring", w -> of(RING).check(1, w), 1, 3);
        LevelRings y = of(FIXED);
        fraction("between FIXED ones", w -> y.check(0, w), 1, 1);
        fraction("1 of 4", w -> y.check(1, w), 3, 4);
        fraction("BRIDGE", w -> y.check(3, w), 0, 1);
        x.strike(0);
        refuses("STRUCK", () -> x.check(0, 0));
        refuses("no such one", () -> x.check(2, 0));
        refuses("below 0", () -> x.check(-1, 0));
    }

    private static void fall() {
        LevelRings x = of(PAIR);
        fraction("light", w -> x.fall(0, w), 6, 1);
        fraction("heavy", w -> x.fall(1, w), 6, 1);
        fraction("ring", w -> of(RING).fall(1, w), 1, 3);
        LevelRings y = of(FIXED);
        fraction("between FIXED ones", w -> y.fall(0, w), 50, 1);
        fraction("side", w -> y.fall(1, w), 3, 1);
        fraction("BRIDGE", w -> y.fall(3, w), 0, 1);
        x.strike(0);
        refuses("STRUCK", () -> x.fall(0, 0));
        refuses("no such one", () -> x.fall(2, 0));
        refuses("below 0", () -> x.fall(-1, 0));
    }

    private static void wanted() {
        LevelRings x = of(PAIR);
        fraction("by the other one", w -> x.wanted(0, w), 7, 1);
        fraction("by the other one", w -> x.wanted(1, w), 4, 1);
        LevelRings y = of(FIXED);
        fraction("by the heights", w -> y.wanted(0, w), -25, 1);
        fraction("5 - -5", w -> y.wanted(1, w), 10, 1);
        refuses("BRIDGE", () -> y.wanted(3, 0));
        LevelRings z = of("point a;point b;line a b up 1 1;line a b up 2 1;line a b up 9 1;");
        fraction("half", w -> z.wanted(2, w), 3, 2);
        z.strike(2);
        refuses("STRUCK", () -> z.wanted(2, 0));
        refuses("no such one", () -> z.wanted(3, 0));
        refuses("below 0", () -> z.wanted(-1, 0));
    }

    private static void blunder() {
        due("none", new LevelRings().blunder(), NONE);
        due("of like ones the least", of(PAIR).blunder(), 0);
        due("greatest", of(FIXED).blunder(), 0);
        LevelRings x = of("point a;point b;line a b up 1 1;line a b up 2 1;line a b up 9 1;");
        due("the odd one", x.blunder(), 2);
        x.read(2, 1);
        x.read(1, 1);
        due("none is off", x.blunder(), NONE);
        LevelRings y = of(RING);
        y.strike(2);
        due("BRIDGES", y.blunder(), NONE);
        // Two LINES with WEIGHTS 1 and w that are 1 apart have a FALL of w / (w + 1)
        due("2/3, 3/4", twoPairs(2, 3).blunder(), 2);
        due("3/4, 2/3", twoPairs(3, 2).blunder(), 0);
        due("3/4, 4/5", twoPairs(3, 4).blunder(), 2);
        due("4/5, 3/4", twoPairs(4, 3).blunder(), 0);
        due("1/2, 2/3", twoPairs(1, 2).blunder(), 2);
        due("3/4, 3/4", twoPairs(3, 3).blunder(), 0);
        LevelRings z = of("point a;point b;point c;point d;line a b up 0 1;line a b up 1 3;line c d up 0 4;line c d up 1 1;");
        due("3/4, 4/5 of heavy ones", z.blunder(), 2);
    }

    private static LevelRings twoPairs(int w, int v) {
        return of("point a;point b;point c;point d;line a b up 0 1;line a b up 1 " + w
            + ";line c d up 0 1;line c d up 1 " + v + ";");
    }

    private static void doubt() {
        LevelRings x = of(RING);
        fraction("1 and 2", w -> x.doubt(0, 1, w), 2, 3);
        fraction("the other way", w -> x.doubt(1, 0, w), 2, 3);
        fraction("of one", w -> x.doubt(2, 2, w), 0, 1);
        fraction("by WEIGHT", w -> of(PAIR).doubt(0, 1, w), 1, 3);
        LevelRings y = of(FIXED);
        fraction("of two FIXED ones", w -> y.doubt(1, 2, w), 0, 1);
        fraction("to FIXED ones", w -> y.doubt(0, 2, w), 1, 4);
        fraction("1/4 and 1/4", w -> y.doubt(3, 1, w), 1, 2);
        fraction("of one alone", w -> y.doubt(4, 4, w), 0, 1);
        refuses("not TIED", () -> y.doubt(4, 0, 0));
        for (int other : new int[] {-1, 5, LEAST, MOST}) {
            refuses("point " + other, () -> y.doubt(other, 0, 0));
            refuses("other point " + other, () -> y.doubt(0, other, 0));
            refuses("both " + other, () -> y.doubt(other, other, 0));
        }
    }

    private static void next() {
        due("none", new LevelRings().next(0), NONE);
        LevelRings x = of(RING);
        due("of like ones the first", x.next(0), 0);
        due("of like ones the first", x.next(1), 1);
        due("another what", x.next(2), NONE);
        due("another what", x.next(-1), NONE);
        x.strike(0);
        due("two ways", x.next(0), 0);
        due("two ways", x.next(1), 1);
        x.weigh(1, 4);
        x.add(1, 2, 3, 4);
        due("behind the weak one", x.next(0) * 10L + x.next(1), 1);
        LevelRings y = of("point a;point b;point c up 1;point d up 2;");
        due("two FIXED ones alone", y.next(0), 2);
        due("two FIXED ones alone", y.next(1), 3);
        y.free(2);
        due("no two are TIED", y.next(0), NONE);
        due("no two are TIED", y.next(1), NONE);
        LevelRings z = of("point a;point b;point c;point d;line a b up 1 3;line c d up 1 2;");
        due("of another PART", z.next(0), 2);
        due("of another PART", z.next(1), 3);
    }

    private static void strike() {
        LevelRings x = of(RING);
        due("strike", x.strike(2), 0);
        due("SOUND ones", x.count(2), 2);
        due("again", x.strike(2), 1);
        due("acts", x.count(6), 1);
        fraction("c", w -> x.height(2, w), 18, 1);
        for (int other : new int[] {-1, 3, LEAST, MOST}) {
            due("no such one", x.strike(other), NONE);
        }
        due("acts", x.count(6), 1);
    }

    private static void mend() {
        LevelRings x = of(RING);
        due("it is SOUND", x.mend(2), 1);
        due("no act", x.count(6), 0);
        x.strike(2);
        due("mend", x.mend(2), 0);
        due("SOUND ones", x.count(2), 3);
        fraction("c", w -> x.height(2, w), 56, 3);
        due("acts", x.count(6), 2);
        for (int other : new int[] {-1, 3, LEAST, MOST}) {
            due("no such one", x.mend(other), NONE);
        }
    }

    private static void snoop() {
        due("none", new LevelRings().snoop(0), 0);
        LevelRings x = of("point a;point b;line a b up 1 1;line a b up 2 1;line a b up 9 1;line a b up 30 1;");
        due("below 0", x.snoop(-1), NONE);
        due("too many", x.snoop(10000), NONE);
        due("least", x.snoop(LEAST), NONE);
        due("most", x.snoop(9999), 0);
        due("no act", x.count(6), 0);
        // FALLS: 26^2 * 3 / 4 = 507 of the last one, then 7.5^2 * 2 / 3 = 37.5, then 1/2
        due("not above", x.snoop(507), 0);
        due("above", x.snoop(506), 1);
        due("STRUCK", x.line(3, 4), 0);
        due("one act", x.count(6), 1);
        x.undo();
        due("two", x.snoop(37), 2);
        due("one act for two", x.count(6), 1);
        x.undo();
        due("all but one", x.snoop(0), 3);
        due("of like ones the least went", x.line(0, 4), 0);
        due("SOUND ones", x.count(2), 1);
        due("none more", x.snoop(0), 0);
        due("undone at once", x.undo(), 0);
        due("SOUND ones", x.count(2), 4);
    }

    private static void read() {
        LevelRings x = of(PAIR);
        due("it has that", x.read(0, 4), 1);
        due("no act", x.count(6), 0);
        due("read", x.read(0, -99), 0);
        due("RISE", x.line(0, 2), -99);
        due("read", x.read(0, 99), 0);
        due("too much", x.read(0, 100), NONE);
        due("too little", x.read(0, -100), NONE);
        due("RISE", x.line(0, 2), 99);
        x.strike(1);
        due("STRUCK ones too", x.read(1, 0), 0);
        due("RISE", x.line(1, 2), 0);
        fraction("b", w -> x.height(1, w), 99, 1);
        for (int other : new int[] {-1, 2, LEAST, MOST}) {
            due("no such one", x.read(other, 1), NONE);
        }
        due("most", x.read(0, MOST), NONE);
        due("least", x.read(0, LEAST), NONE);
    }

    private static void weigh() {
        LevelRings x = of(PAIR);
        due("it has that", x.weigh(0, 1), 1);
        due("no act", x.count(6), 0);
        due("weigh", x.weigh(0, 4), 0);
        due("WEIGHT", x.line(0, 3), 4);
        fraction("b", w -> x.height(1, w), 5, 1);
        due("too much", x.weigh(0, 5), NONE);
        due("too little", x.weigh(0, 0), NONE);
        due("least", x.weigh(0, LEAST), NONE);
        x.strike(1);
        due("STRUCK ones too", x.weigh(1, 1), 0);
        due("acts", x.count(6), 3);
        for (int other : new int[] {-1, 2, LEAST, MOST}) {
            due("no such one", x.weigh(other, 1), NONE);
        }
    }

    private static void add() {
        LevelRings x = of(PAIR);
        due("unlike POINTS", x.add(1, 1, 0, 1), NONE);
        due("no such first", x.add(2, 1, 0, 1), NONE);
        due("no such second", x.add(0, -1, 0, 1), NONE);
        due("RISE too much", x.add(0, 1, 100, 1), NONE);
        due("RISE too little", x.add(0, 1, -100, 1), NONE);
        due("WEIGHT too much", x.add(0, 1, 0, 5), NONE);
        due("WEIGHT too little", x.add(0, 1, 0, 0), NONE);
        due("no act", x.count(6), 0);
        due("add", x.add(1, 0, -99, 4), 2);
        int[] row = {1, 0, -99, 4, 1, 0, 0};
        for (int what = 0; what < 7; what++) {
            due("line 2 " + what, x.line(2, what), row[what]);
        }
        due("LINES", x.count(1), 3);
        for (int l = 3; l < 11; l++) {
            due("add", x.add(0, 1, 99, 1), l);
        }
        due("there are 11", x.add(0, 1, 99, 1), NONE);
        due("acts", x.count(6), 8);
        x.undo();
        x.strike(9);
        x.undo();
        due("SOUND again", x.add(0, 1, 1, 1), 10);
        due("SOUND", x.count(2), 11);
    }

    private static void fix() {
        LevelRings x = of(RING);
        due("it is so", x.fix(0, 10), 1);
        due("no act", x.count(6), 0);
        due("another HEIGHT", x.fix(0, -99), 0);
        due("HEIGHT", x.point(0, 1), -99);
        due("a FREE one", x.fix(2, 99), 0);
        due("FIXED", x.point(2, 0), 1);
        due("too much", x.fix(1, 100), NONE);
        due("too little", x.fix(1, -100), NONE);
        due("acts", x.count(6), 2);
        // Halfway between -99 + 5 and 99 - 3
        fraction("b", w -> x.height(1, w), 1, 1);
        for (int other : new int[] {-1, 3, LEAST, MOST}) {
            due("no such one", x.fix(other, 0), NONE);
        }
        LevelRings y = of("point a;");
        due("0 is a HEIGHT", y.fix(0, 0), 0);
        due("it is so", y.fix(0, 0), 1);
    }

    private static void free() {
        LevelRings x = of(RING);
        due("it is FREE", x.free(1), 1);
        due("no act", x.count(6), 0);
        due("free", x.free(0), 0);
        due("HEIGHT", x.point(0, 1), HIDDEN);
        fraction("ROOT", w -> x.height(0, w), 0, 1);
        fraction("b", w -> x.height(1, w), 16, 3);
        due("again", x.free(0), 1);
        due("FIXED again with its old HEIGHT", x.fix(0, 10), 0);
        due("acts", x.count(6), 2);
        for (int other : new int[] {-1, 3, LEAST, MOST}) {
            due("no such one", x.free(other), NONE);
        }
    }

    private static void drawn() {
        LevelRings none = new LevelRings();
        due("no LINES", none.drawn(5, 1), 0);
        due("not as told comes first", none.drawn(61, 1), NONE);
        LevelRings x = of(PAIR);
        due("too few", x.drawn(0, 1), NONE);
        due("too many", x.drawn(61, 1), NONE);
        due("least", x.drawn(LEAST, 1), NONE);
        // Seed 10: 2445230203 (9551680: LINE 0), 1849040536 (7222814 % 9 = 8: 4)
        due("one", x.drawn(1, 10), 1);
        due("RISE", x.line(0, 2), 4 + 4);
        due("the other one stays", x.line(1, 2), 7);
        due("one act", x.count(6), 1);
        // Seed 4: 119106029 (465257: LINE 1), 3731259426 (14575232 % 9 = 2: -2)
        due("one", x.drawn(1, 4), 1);
        due("RISE", x.line(1, 2), 7 - 2);
        due("undone", x.undo(), 1);
        due("undone", x.undo(), 0);
        due("RISE", x.line(0, 2), 4);
        due("a slip of 0 is none", x.drawn(1, 20), 0);
        x.read(0, 96);
        due("it would not stay", x.drawn(1, 10), 0);
        due("RISE", x.line(0, 2), 96);
        due("no act", x.count(6), 1);
        x.read(0, 95);
        due("it stays just so", x.drawn(1, 10), 1);
        due("RISE", x.line(0, 2), 99);
        LevelRings y = of(PAIR);
        due("ahead", y.height(1, 0), 6);
        due("sixty", y.drawn(60, 77) > 0, true);
        x.strike(0);
        x.read(0, 0);
        due("STRUCK ones too", x.drawn(1, 10), 1);
        due("RISE", x.line(0, 2), 4);
        fraction("worked out anew", w -> y.off(0, w), 2L * (y.line(1, 2) - y.line(0, 2)) / divisor(y),
            3 / divisor(y));
    }

    private static int divisor(LevelRings y) {
        return (y.line(1, 2) - y.line(0, 2)) % 3 == 0 ? 3 : 1;
    }

    private static void undo() {
        LevelRings x = of(RING);
        due("none", x.undo(), NONE);
        x.strike(0);
        x.mend(0);
        x.read(0, 50);
        x.weigh(0, 3);
        x.fix(1, 7);
        x.free(0);
        x.add(0, 1, 2, 3);
        due("snoop", x.snoop(0) > 0, true);
        due("acts", x.count(6), 8);
        x.drawn(60, 3);
        due("eight at most", x.count(6), 8);
        due("drawn", x.undo(), 7);
        due("RISE", x.line(3, 2), 2);
        due("snoop", x.undo(), 6);
        due("SOUND ones", x.count(2), 4);
        due("add", x.undo(), 5);
        due("LINES", x.count(1), 3);
        due("free", x.undo(), 4);
        due("HEIGHT", x.point(0, 1), 10);
        due("fix", x.undo(), 3);
        due("FREE", x.point(1, 0), 0);
        due("weigh", x.undo(), 2);
        due("WEIGHT", x.line(0, 3), 1);
        due("read", x.undo(), 1);
        due("RISE", x.line(0, 2), 5);
        due("mend", x.undo(), 0);
        due("STRUCK", x.line(0, 4), 0);
        due("the ninth is gone", x.undo(), NONE);
        due("STRUCK", x.line(0, 4), 0);
        x.strike(1);
        x.strike(2);
        due("undone", x.undo(), 1);
        x.read(1, 1);
        due("acts behind an undo", x.count(6), 2);
        due("undone", x.undo(), 1);
        due("undone", x.undo(), 0);
        due("SOUND ones", x.count(2), 2);
        LevelRings y = of(PAIR);
        y.drawn(60, 9);
        y.strike(1);
        due("STRUCK", y.count(4), 1);
        y.undo();
        due("worked out anew", y.count(4), 0);
        y.undo();
        fraction("worked out anew", w -> y.height(1, w), 6, 1);
    }

    private static void image() {
        LevelRings x = of(PAIR);
        due("below 0", x.image(-1), false);
        due("2", x.image(2), false);
        due("most", x.image(MOST), false);
        due("least", x.image(LEAST), false);
        x.strike(0);
        due("0", x.image(0), true);
        due("what can be undone stays", x.count(6), 1);
        x.undo();
        due("1", x.image(1), true);
        due("restore 0", x.restore(0), true);
        due("STRUCK", x.line(0, 4), 0);
        due("restore 1", x.restore(1), true);
        due("SOUND", x.line(0, 4), 1);
        x.read(0, 77);
        due("kept anew", x.image(0), true);
        x.read(0, 78);
        x.restore(0);
        due("what was kept last", x.line(0, 2), 77);
        due("SOUND", x.line(0, 4), 1);
    }

    private static void restore() {
        LevelRings x = of(PAIR);
        due("nothing is kept", x.restore(0), false);
        x.image(0);
        due("nothing is kept there", x.restore(1), false);
        due("below 0", x.restore(-1), false);
        due("2", x.restore(2), false);
        due("least", x.restore(LEAST), false);
        Fed.net(x, RING);
        x.strike(1);
        due("false changes nothing", x.restore(1), false);
        due("acts", x.count(6), 1);
        Fed.net(x, "oh");
        Fed.feed(x, "point z;");
        due("restore", x.restore(0), true);
        due("POINTS", x.count(0), 2);
        due("LINES", x.count(1), 2);
        due("nothing can be undone", x.count(6), 0);
        due("nothing can be undone", x.undo(), NONE);
        due("the tape stays", x.count(7), 8);
        due("the FAULT stays", x.fault(0), 1);
        due("its ROW stays", x.fault(1), 0);
        fraction("worked out anew", w -> x.height(1, w), 6, 1);
        x.strike(0);
        due("STRUCK", x.count(4), 2);
        due("again", x.restore(0), true);
        due("worked out anew", x.count(4), 0);
        due("the image is untouched by acts", x.count(2), 2);
        due("an image of an empty NET", new LevelRings().image(1), true);
    }

    private static void count() {
        LevelRings x = of(FIXED);
        int[] row = {5, 4, 4, 2, 8, 10, 0, 0};
        for (int what = 0; what < 8; what++) {
            due("count " + what, x.count(what), row[what]);
        }
        x.strike(3);
        x.feed(0, 0, 0, 0, 0);
        int[] then = {5, 4, 3, 3, 0, 2, 1, 20};
        for (int what = 0; what < 8; what++) {
            due("count then " + what, x.count(what), then[what]);
        }
        for (int other : new int[] {-1, 8, LEAST, MOST}) {
            due("another what", x.count(other), NONE);
        }
    }
}
