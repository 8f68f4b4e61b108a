/** Promises 6 to 21: what is asked of a NET, and which asks are refused. */
final class AskSentences extends Due {
    private static final String ALL = "NoSuchElementException: no such ones.";

    private AskSentences() {
    }

    static void tell(Book book) {
        points(book);
        lines(book);
        heights(book);
        offs(book);
        rings(book);
        worst(book);
        checks(book);
        wanted(book);
        blunder(book);
        doubt(book);
        next(book);
    }

    /** Numbers that are not 0 to n - 1, those among them that a shift by them would take for such ones. */
    static int[] outside(int n) {
        return new int[] {-1, n, n + 1, -31, -32, 32, 33, 64, -n, LEAST, LEAST + 1, MOST};
    }

    /** As many POINTS and LINES as can be, in one PART, all LINES of the first RING. */
    private static LevelRings most() {
        LevelRings x = of("point a;point b;point c;point d;point e;point f;");
        for (int l = 0; l < 11; l++) {
            x.add(l % 6, (l + 1) % 6, l, l % 4 + 1);
        }
        return x;
    }

    private interface OfOne {
        long ask(LevelRings x, int one, int what);
    }

    /** That a call answers for ones 0 to n - 1 by 0 to whats - 1, and throws for all else. */
    private static void bounds(LevelRings x, int n, int whats, OfOne asked) {
        for (int one = 0; one < n; one++) {
            for (int what = 0; what < whats; what++) {
                asked.ask(x, one, what);
            }
        }
        for (int one : outside(n)) {
            refuses("one " + one, () -> asked.ask(x, one, 0));
            refuses("one " + one, () -> asked.ask(x, one, whats - 1));
            refuses("both " + one, () -> asked.ask(x, one, -1));
        }
        for (int what : outside(whats)) {
            refuses("what " + what, () -> asked.ask(x, 0, what));
            refuses("what " + what, () -> asked.ask(x, n - 1, what));
        }
        refuses("of none", () -> asked.ask(new LevelRings(), 0, 0));
    }

    private static void points(Book book) {
        book.open("Promise 6: point");
        book.says("Of a POINT: 0 whether it is FIXED (1, 0),", () -> {
            LevelRings x = of(FIXED);
            int[] due = {0, 1, 1, 0, 0};
            for (int p = 0; p < 5; p++) {
                due("FIXED " + p, x.point(p, 0), due[p]);
            }
            x.fix(0, 0);
            due("fixed at 0", x.point(0, 0), 1);
            x.free(1);
            due("set free", x.point(1, 0), 0);
        });
        book.says("1 its HEIGHT, if FIXED (HIDDEN),", () -> {
            LevelRings x = of(FIXED);
            int[] due = {HIDDEN, 20, -5, HIDDEN, HIDDEN};
            for (int p = 0; p < 5; p++) {
                due("HEIGHT " + p, x.point(p, 1), due[p]);
            }
            x.fix(4, -99);
            due("the least", x.point(4, 1), -99);
            x.fix(4, 99);
            due("the most", x.point(4, 1), 99);
            x.fix(4, 0);
            due("0", x.point(4, 1), 0);
            x.free(4);
            due("a ROOT is not FIXED", x.point(4, 1), HIDDEN);
        });
        book.says("2 its PART (the least POINT of it),", () -> {
            LevelRings x = of(FIXED);
            int[] due = {0, 0, 0, 0, 4};
            for (int p = 0; p < 5; p++) {
                due("PART of " + p, x.point(p, 2), due[p]);
            }
            x.strike(1);
            x.strike(2);
            int[] then = {0, 1, 1, 0, 4};
            for (int p = 0; p < 5; p++) {
                due("PART then of " + p, x.point(p, 2), then[p]);
            }
        });
        book.says("3 whether it is a ROOT (1, 0),", () -> {
            LevelRings x = of(FIXED);
            x.strike(1);
            x.strike(2);
            int[] due = {1, 0, 0, 0, 1};
            for (int p = 0; p < 5; p++) {
                due("ROOT " + p, x.point(p, 3), due[p]);
            }
            x.free(1);
            due("the other one is FIXED", x.point(1, 3), 0);
            x.free(2);
            due("none is FIXED", x.point(1, 3), 1);
            due("not the least", x.point(2, 3), 0);
        });
        book.says("4 how many SOUND LINES it has.", () -> {
            LevelRings x = of(FIXED);
            int[] due = {3, 2, 2, 1, 0};
            for (int p = 0; p < 5; p++) {
                due("LINES of " + p, x.point(p, 4), due[p]);
            }
            x.strike(2);
            due("one of them STRUCK", x.point(0, 4), 2);
            due("at its other end", x.point(1, 4), 1);
            LevelRings y = of("point a;point b;");
            for (int l = 0; l < 11; l++) {
                y.add(l % 2, 1 - l % 2, l, 1);
            }
            due("all there can be", y.point(1, 4), 11);
        });
        book.says(ALL, () -> {
            bounds(of(FIXED), 5, 5, LevelRings::point);
            bounds(most(), 6, 5, LevelRings::point);
        });
    }

    private static void lines(Book book) {
        book.open("Promise 7: line");
        book.says("Of a LINE: 0 FIRST, 1 SECOND, 2 RISE, 3 WEIGHT,", () -> {
            LevelRings x = of(FIXED);
            int[][] due = {{1, 2, -30, 2}, {2, 0, 8, 1}, {1, 0, -15, 3}, {3, 0, 6, 4}};
            for (int l = 0; l < 4; l++) {
                for (int what = 0; what < 4; what++) {
                    due("line " + l + " " + what, x.line(l, what), due[l][what]);
                }
                x.strike(l);
                due("a STRUCK one has it too", x.line(l, 2), due[l][2]);
            }
        });
        book.says("4 whether it is SOUND (1, 0),", () -> {
            LevelRings x = of(FIXED);
            x.strike(1);
            int[] due = {1, 0, 1, 1};
            for (int l = 0; l < 4; l++) {
                due("SOUND " + l, x.line(l, 4), due[l]);
            }
        });
        book.says("5 whether it is in the TREE (1, 0),", () -> {
            LevelRings x = of(FIXED);
            for (int l = 0; l < 4; l++) {
                due("TREE " + l, x.line(l, 5), l % 2);
            }
            x.strike(1);
            due("a STRUCK one", x.line(1, 5), 0);
            due("the one that ties then", x.line(2, 5), 1);
        });
        book.says("6 whether it is a BRIDGE (1, 0).", () -> {
            LevelRings x = of(FIXED);
            for (int l = 0; l < 4; l++) {
                due("BRIDGE " + l, x.line(l, 6), l == 3 ? 1 : 0);
            }
            x.strike(3);
            due("a STRUCK one", x.line(3, 6), 0);
            x.strike(1);
            due("the one that is left", x.line(2, 6), 1);
        });
        book.says(ALL, () -> {
            bounds(of(FIXED), 4, 7, LevelRings::line);
            bounds(most(), 11, 7, LevelRings::line);
        });
    }

    private static void heights(Book book) {
        book.open("Promise 8: height");
        book.says("HEIGHT of a POINT, as a fraction.", () -> {
            LevelRings x = of(FIXED);
            // (1 * (-5 + 8) + 3 * (20 - 15)) / 4
            is("sought", w -> x.height(0, w), 9, 2);
            is("FIXED", w -> x.height(1, w), 20, 1);
            is("FIXED below 0", w -> x.height(2, w), -5, 1);
            is("hanging", w -> x.height(3, w), -3, 2);
            is("alone", w -> x.height(4, w), 0, 1);
            LevelRings most = of("point a up 99;point b;point c;point d;point e;point f;line a b up 99 4;line b c up 99 4;"
                + "line c d up 99 4;line d e up 99 4;line e f up 99 4;");
            is("the most there can be", w -> most.height(5, w), 6 * 99, 1);
        });
        book.says(ALL, () -> {
            bounds(of(FIXED), 5, 2, LevelRings::height);
            bounds(most(), 6, 2, LevelRings::height);
        });
        book.open("Promise 9: rounded");
        book.says("ROUNDED;", () -> {
            LevelRings x = of(FIXED);
            int[] due = {5, 20, -5, -1, 0};
            for (int p = 0; p < 5; p++) {
                due("rounded " + p, x.rounded(p), due[p]);
            }
            due("46/3", of(RING).rounded(1), 15);
            due("56/3", of(RING).rounded(2), 19);
        });
        book.says("HIDDEN: no such POINT.", () -> {
            for (int p : outside(5)) {
                due("rounded " + p, of(FIXED).rounded(p), HIDDEN);
            }
            due("a seventh", most().rounded(6), HIDDEN);
            due("of none", new LevelRings().rounded(0), HIDDEN);
        });
    }

    private static void offs(Book book) {
        book.open("Promise 10: off");
        book.says("OFF of a SOUND LINE.", () -> {
            is("above 0", w -> of(PAIR).off(0, w), 2, 1);
            is("below 0", w -> of(RING).off(2, w), -1, 3);
            is("between FIXED ones", w -> of(FIXED).off(0, w), 5, 1);
            is("a BRIDGE", w -> of(FIXED).off(3, w), 0, 1);
        });
        book.says(ALL, () -> {
            bounds(of(FIXED), 4, 2, LevelRings::off);
            bounds(most(), 11, 2, LevelRings::off);
            struck(LevelRings::off);
        });
        book.open("Promise 11: sum");
        book.says("SUM.", () -> {
            is("1/9 * 3", of(RING)::sum, 1, 3);
            is("1 * 4 + 2 * 1", of(PAIR)::sum, 6, 1);
            is("2 * 25 + 1 * 9/4 + 3 * 1/4", of(FIXED)::sum, 53, 1);
            is("nothing", new LevelRings()::sum, 0, 1);
            LevelRings most = of("point a up 99;point b down 99;");
            for (int l = 0; l < 11; l++) {
                most.add(0, 1, 99, 4);
            }
            is("the most there can be", most::sum, 11L * 4 * 297 * 297, 1);
            for (int l = 0; l < 11; l++) {
                most.strike(l);
            }
            is("all STRUCK", most::sum, 0, 1);
        });
        book.says("NoSuchElementException: another what.", () -> {
            for (int what : outside(2)) {
                refuses("sum " + what, () -> of(RING).sum(what));
                refuses("of none", () -> new LevelRings().sum(what));
            }
        });
    }

    /** A STRUCK LINE is none that can be asked for, until it is SOUND again. */
    private static void struck(OfOne asked) {
        LevelRings x = most();
        for (int l = 0; l < 11; l += 5) {
            int line = l;
            x.strike(l);
            refuses("STRUCK " + l, () -> asked.ask(x, line, 0));
            refuses("STRUCK " + l, () -> asked.ask(x, line, 1));
            x.mend(l);
            asked.ask(x, l, 0);
        }
    }

    private static void rings(Book book) {
        book.open("Promise 12: rings");
        book.says("RINGS: how many.", () -> {
            due("of none", new LevelRings().rings(), 0);
            LevelRings x = of("point a;point b;");
            for (int l = 0; l < 11; l++) {
                due("LINES " + l, x.rings(), l == 0 ? 0 : l - 1);
                x.add(0, 1, l, 1);
            }
            due("one in the TREE", x.rings(), 10);
            x.fix(0, 1);
            due("one FIXED", x.rings(), 10);
            x.fix(1, 1);
            due("both FIXED", x.rings(), 11);
            x.strike(0);
            due("a STRUCK one", x.rings(), 10);
        });
        book.open("Promise 13: ring");
        book.says("The RING of a LINE, as bits;", () -> {
            due("of two", of(RING).ring(2), 0b11);
            due("of none", of(FIXED).ring(0), 0);
            due("of five", most().ring(5), 0b11111);
            due("of one", most().ring(10), 0b10000);
            LevelRings last = of("point a;point b;");
            for (int l = 0; l < 11; l++) {
                last.add(0, 1, l, 1);
                last.strike(l);
            }
            last.mend(10);
            last.mend(9);
            due("LINE 9 ties, LINE 10 is in a RING", last.ring(10), 1 << 9);
        });
        book.says("NONE: it is STRUCK,", () -> {
            LevelRings x = of(RING);
            x.strike(2);
            due("STRUCK", x.ring(2), NONE);
            x.mend(2);
            x.strike(0);
            due("its RING is open", x.ring(2), NONE);
            due("STRUCK", x.ring(0), NONE);
        });
        book.says("in the TREE,", () -> {
            for (int l = 0; l < 5; l++) {
                due("LINE " + l, most().ring(l), NONE);
            }
            due("a BRIDGE", of(FIXED).ring(3), NONE);
        });
        book.says("no such one.", () -> {
            for (int l : outside(3)) {
                due("LINE " + l, of(RING).ring(l), NONE);
            }
            // A shift by 34 or by -30 is one by 2, and LINE 2 has a RING.
            due("LINE 34", of(RING).ring(34), NONE);
            due("LINE -30", of(RING).ring(-30), NONE);
            due("a twelfth", most().ring(11), NONE);
            due("of none", new LevelRings().ring(0), NONE);
        });
        book.open("Promise 14: closes");
        book.says("What that CLOSES by;", () -> {
            due("9 - 8", of(RING).closes(2), 1);
            due("-30 - -25", of(FIXED).closes(0), -5);
            due("-15 - (-25 + 8)", of(FIXED).closes(2), 2);
            due("5 - -10", most().closes(5), 15);
            LevelRings x = of(RING);
            x.read(2, 8);
            due("by 0", x.closes(2), 0);
            x.read(2, 7);
            due("by -1", x.closes(2), -1);
        });
        book.says("HIDDEN: none such.", () -> {
            LevelRings x = of(RING);
            due("in the TREE", x.closes(0), HIDDEN);
            for (int l : outside(3)) {
                due("LINE " + l, x.closes(l), HIDDEN);
            }
            due("LINE 34", x.closes(34), HIDDEN);
            x.strike(2);
            due("STRUCK", x.closes(2), HIDDEN);
            due("a twelfth", most().closes(11), HIDDEN);
            due("of none", new LevelRings().closes(0), HIDDEN);
        });
    }

    private static void worst(Book book) {
        book.open("Promise 15: worst");
        book.says("The LINE whose RING CLOSES by most, above or below 0;", () -> {
            LevelRings x = of("point a;point b;line a b up 0 1;line a b up 1 1;line a b up 3 1;line a b up 2 1;");
            due("above 0", x.worst(), 2);
            x.add(0, 1, -4, 1);
            due("below 0", x.worst(), 4);
            x.add(0, 1, 5, 1);
            due("above again", x.worst(), 5);
            x.strike(5);
            x.strike(4);
            due("of those left", x.worst(), 2);
            due("LINE 0, between FIXED ones", of(FIXED).worst(), 0);
            due("LINE 10", lastIsOff().worst(), 10);
        });
        book.says("of like ones the least;", () -> {
            LevelRings x = of("point a;point b;line a b up 0 1;line a b up 1 1;line a b down 3 1;line a b up 3 1;line a b down 3 1;");
            due("below 0 first", x.worst(), 2);
            x.strike(2);
            due("above 0 first", x.worst(), 3);
            LevelRings y = of("point a;point b;line a b up 2 1;line a b up 2 1;line a b up 2 1;");
            due("all by 0", y.worst(), 1);
        });
        book.says("NONE: there is no RING.", () -> {
            due("of none", new LevelRings().worst(), NONE);
            LevelRings x = of(RING);
            x.strike(1);
            due("none left", x.worst(), NONE);
            x.fix(2, 0);
            due("by FIXED ones", x.worst(), 2);
        });
    }

    private static void checks(Book book) {
        book.open("Promise 16: check");
        book.says("CHECK of a SOUND LINE.", () -> {
            is("light", w -> of(PAIR).check(0, w), 2, 3);
            is("heavy", w -> of(PAIR).check(1, w), 1, 3);
            is("between FIXED ones", w -> of(FIXED).check(0, w), 1, 1);
            is("1 of 4", w -> of(FIXED).check(1, w), 3, 4);
            is("a BRIDGE", w -> of(FIXED).check(3, w), 0, 1);
        });
        book.says(ALL, () -> {
            bounds(of(FIXED), 4, 2, LevelRings::check);
            bounds(most(), 11, 2, LevelRings::check);
            struck(LevelRings::check);
        });
        book.open("Promise 17: fall");
        book.says("FALL of a SOUND LINE.", () -> {
            is("light", w -> of(PAIR).fall(0, w), 6, 1);
            is("heavy", w -> of(PAIR).fall(1, w), 6, 1);
            is("in a RING", w -> of(RING).fall(1, w), 1, 3);
            is("between FIXED ones", w -> of(FIXED).fall(0, w), 50, 1);
            is("a BRIDGE", w -> of(FIXED).fall(3, w), 0, 1);
        });
        book.says(ALL, () -> {
            bounds(of(FIXED), 4, 2, LevelRings::fall);
            bounds(most(), 11, 2, LevelRings::fall);
            struck(LevelRings::fall);
        });
    }

    private static void wanted(Book book) {
        book.open("Promise 18: wanted");
        book.says("WANTED of a SOUND LINE.", () -> {
            is("by the other one", w -> of(PAIR).wanted(0, w), 7, 1);
            is("by the heights", w -> of(FIXED).wanted(0, w), -25, 1);
            is("5 - -5", w -> of(FIXED).wanted(1, w), 10, 1);
            LevelRings x = of("point a;point b;line a b up 1 1;line a b up 2 1;line a b up 9 1;");
            is("a half", w -> x.wanted(2, w), 3, 2);
            LevelRings y = of("point a;point b;line a b up 9 4;line a b up 9 1;");
            is("one that is not off", w -> y.wanted(0, w), 9, 1);
        });
        book.says("NoSuchElementException: it is a BRIDGE,", () -> {
            LevelRings x = of(FIXED);
            refuses("a BRIDGE", () -> x.wanted(3, 0));
            refuses("a BRIDGE", () -> x.wanted(3, 1));
            x.strike(1);
            refuses("one that is left", () -> x.wanted(2, 0));
            x.mend(1);
            is("no more", w -> x.wanted(2, w), -17, 1);
        });
        book.says("no such ones.", () -> {
            bounds(of(RING), 3, 2, LevelRings::wanted);
            bounds(most(), 11, 2, LevelRings::wanted);
            struck(LevelRings::wanted);
        });
    }

    private static void blunder(Book book) {
        book.open("Promise 19: blunder");
        book.says("The BLUNDER;", () -> {
            due("the least of like ones", of(PAIR).blunder(), 0);
            LevelRings x = of("point a;point b;line a b up 1 1;line a b up 2 1;line a b up 9 1;");
            due("the last one", x.blunder(), 2);
            x.strike(2);
            due("of those left", x.blunder(), 0);
            due("LINE 10", lastIsOff().blunder(), 10);
            for (int i = 0; i < 256; i++) {
                twoPairs(i % 4 + 1, i / 4 % 4 + 1, i / 16 % 4 + 1, i / 64 + 1);
            }
        });
        book.says("NONE: there is none.", () -> {
            due("of none", new LevelRings().blunder(), NONE);
            LevelRings x = of("point a;point b;line a b up 1 1;line a b up 1 1;");
            due("none is off", x.blunder(), NONE);
            x.read(1, 5);
            x.strike(1);
            due("BRIDGES", x.blunder(), NONE);
            x.strike(0);
            due("all STRUCK", x.blunder(), NONE);
        });
    }

    /** Eleven LINES between two POINTS, the last of which is off. */
    private static LevelRings lastIsOff() {
        LevelRings x = of("point a;point b;");
        for (int l = 0; l < 11; l++) {
            x.add(0, 1, l == 10 ? 99 : 0, 1);
        }
        return x;
    }

    /** Two LINES with WEIGHTS v and w that are 1 apart have a FALL of v * w / (v + w) each. */
    private static void twoPairs(int a, int b, int c, int d) {
        LevelRings x = of("point a;point b;point c;point d;line a b up 0 " + a + ";line a b up 1 " + b
            + ";line c d up 0 " + c + ";line c d up 1 " + d + ";");
        due("WEIGHTS " + a + ", " + b + " and " + c + ", " + d, x.blunder(), a * b * (c + d) >= c * d * (a + b) ? 0 : 2);
    }

    private static void doubt(Book book) {
        book.open("Promise 20: doubt");
        book.says("DOUBT.", () -> {
            is("1 and 2", w -> of(RING).doubt(0, 1, w), 2, 3);
            is("the other way", w -> of(RING).doubt(1, 0, w), 2, 3);
            is("by WEIGHT", w -> of(PAIR).doubt(0, 1, w), 1, 3);
            is("to FIXED ones", w -> of(FIXED).doubt(0, 2, w), 1, 4);
            is("1/4 and 1/4", w -> of(FIXED).doubt(3, 1, w), 1, 2);
            is("of one alone", w -> of(FIXED).doubt(4, 4, w), 0, 1);
        });
        book.says("NoSuchElementException: they are not TIED,", () -> {
            LevelRings x = of(FIXED);
            for (int p = 0; p < 4; p++) {
                int q = p;
                refuses("4 and " + p, () -> x.doubt(4, q, 0));
                refuses(p + " and 4", () -> x.doubt(q, 4, 1));
            }
            x.strike(3);
            refuses("its LINE is STRUCK", () -> x.doubt(3, 0, 0));
            x.fix(3, 0);
            x.fix(4, 0);
            is("FIXED ones", w -> x.doubt(3, 4, w), 0, 1);
        });
        book.says("no such ones.", () -> {
            bounds(of(RING), 3, 2, (x, p, what) -> x.doubt(p, 1, what));
            bounds(of(RING), 3, 2, (x, p, what) -> x.doubt(1, p, what));
            bounds(of(RING), 3, 2, (x, p, what) -> x.doubt(p, p, what));
            bounds(most(), 6, 2, (x, p, what) -> x.doubt(p, 5, what));
        });
    }

    private static void next(Book book) {
        book.open("Promise 21: next");
        book.says("NEXT: the lesser POINT (0), the other one (1);", () -> {
            LevelRings x = of("point a;point b;point c;line c a up 1 1;line b a up 1 2;");
            due("the lesser one", x.next(0), 1);
            due("the other one", x.next(1), 2);
            x.strike(0);
            due("the lesser one", x.next(0), 0);
            due("the other one", x.next(1), 1);
            LevelRings six = of("point a;point b;point c;point d;point e;point f;line f e up 1 1;line a b up 1 2;");
            due("the lesser one of six", six.next(0), 4);
            due("the other one of six", six.next(1), 5);
        });
        book.says("NONE: no two are TIED,", () -> {
            LevelRings x = of("point a;point b up 1;line a b up 1 1;");
            x.strike(0);
            for (int what = 0; what < 2; what++) {
                due("of none", new LevelRings().next(what), NONE);
                due("of one", of("point a;").next(what), NONE);
                due("a STRUCK LINE, one FIXED", x.next(what), NONE);
            }
            x.fix(0, 1);
            due("FIXED ones are", x.next(1), 1);
        });
        book.says("another what.", () -> {
            for (int what : outside(2)) {
                due("next " + what, of(RING).next(what), NONE);
            }
        });
    }
}
