import java.math.BigInteger;

/** The second half of the Terms: what follows from a NET, each held against its own definition. */
final class TermSentences extends Due {
    /** Four POINTS in a row and nothing FIXED. */
    private static final String CHAIN = "point a;point b;point c;point d;line a b up 1 1;line c b up 2 2;line c d up 3 3;";
    /** As many POINTS and LINES as can be, two of them FIXED, WEIGHTS and RISES of all sizes. */
    private static final String LARGE = "point a;point b up 99;point c;point d;point e down 99;point f;"
        + "line a b up 99 4;line b c down 99 3;line c d up 98 4;line d e down 97 3;line e f up 99 4;line f a down 96 1;"
        + "line a c up 95 2;line b d down 99 4;line c e up 94 3;line d f down 93 4;line b e up 99 1;";
    /** The same without a FIXED POINT: five heights are sought, the most there can be. */
    private static final String LOOSE = LARGE.replace(" up 99;point c", ";point c").replace(" down 99;point f", ";point f");
    private static final String[] NETS = {RING, PAIR, FIXED, CHAIN, LARGE, LOOSE};

    private TermSentences() {
    }

    static void tell(Book book) {
        book.open("What it is");
        book.says("An object is used for at most 512 calls after it has been made;", TermSentences::manyCalls);
        book.open("Terms");
        ties(book);
        heights(book);
        rings(book);
        checks(book);
        blunders(book);
        doubts(book);
        draws(book);
        fractions(book);
        rest(book);
    }

    /** The feeds, end and net of a NET are its first calls, six here; the 512th is the last one asked. */
    private static void manyCalls() {
        LevelRings x = of(PAIR);
        for (int i = 0; i < 252; i++) {
            due("read", x.read(0, i % 2 == 0 ? 10 : 4), 0);
            due("height", x.height(1, 0), i % 2 == 0 ? 8 : 6);
        }
        due("undo", x.undo(), 7);
        due("the last one", x.height(1, 0), 8);
    }

    // ---- fractions by their two halves ----

    private static Model.Frac frac(Told told) {
        return new Model.Frac(BigInteger.valueOf(told.half(0)), BigInteger.valueOf(told.half(1)));
    }

    private static Model.Frac rise(LevelRings x, int l) {
        return Model.Frac.of(x.line(l, 2));
    }

    private static Model.Frac climb(LevelRings x, int l) {
        int first = x.line(l, 0);
        int second = x.line(l, 1);
        return frac(w -> x.height(second, w)).minus(frac(w -> x.height(first, w)));
    }

    private static void same(String what, Model.Frac got, Model.Frac want) {
        if (got.compare(want) != 0) {
            isWrong(what + " is " + got + ", due is " + want);
        }
    }

    /** Asks of each SOUND LINE of each NET, and again with one LINE STRUCK. */
    private interface OfLine {
        void ask(String what, LevelRings x, int l);
    }

    private static void eachLine(OfLine asked) {
        for (String text : NETS) {
            int lines = of(text).count(1);
            for (int struck = NONE; struck < lines; struck++) {
                for (int l = 0; l < lines; l++) {
                    if (l != struck) {
                        LevelRings x = of(text);
                        x.strike(struck);
                        asked.ask("LINE " + l + " of '" + text + "' without " + struck, x, l);
                    }
                }
            }
        }
    }

    private static LevelRings copy(LevelRings x) {
        LevelRings y = new LevelRings();
        StringBuilder text = new StringBuilder();
        for (int p = 0; p < x.count(0); p++) {
            text.append("point ").append((char) ('a' + p)).append(';');
        }
        Fed.net(y, text.toString());
        for (int p = 0; p < x.count(0); p++) {
            if (x.point(p, 0) == 1) {
                y.fix(p, x.point(p, 1));
            }
        }
        for (int l = 0; l < x.count(1); l++) {
            y.add(x.line(l, 0), x.line(l, 1), x.line(l, 2), x.line(l, 3));
            if (x.line(l, 4) == 0) {
                y.strike(l);
            }
        }
        return y;
    }

    // ---- PARTS and HEIGHTS ----

    private static void parts(LevelRings x, int... due) {
        int parts = 0;
        for (int p = 0; p < due.length; p++) {
            due("PART of " + p, x.point(p, 2), due[p]);
            parts += due[p] == p ? 1 : 0;
        }
        due("PARTS", x.count(3), parts);
    }

    private static void ties(Book book) {
        book.says("==== 2. A LINE is SOUND (at first) or STRUCK.", () -> {
            LevelRings x = of(LARGE);
            for (int l = 0; l < 11; l++) {
                due("SOUND at first " + l, x.line(l, 4), 1);
                x.strike(l);
                due("STRUCK " + l, x.line(l, 4), 0);
                due("SOUND ones", x.count(2), 10 - l);
            }
        });
        book.says("TIED are POINTS that SOUND LINES join,", () -> {
            LevelRings x = of(CHAIN);
            parts(x, 0, 0, 0, 0);
            x.strike(1);
            parts(x, 0, 0, 2, 2);
            x.strike(0);
            parts(x, 0, 1, 2, 2);
            x.strike(2);
            parts(x, 0, 1, 2, 3);
            x.mend(1);
            parts(x, 0, 1, 1, 3);
            x.add(3, 1, 0, 1);
            parts(x, 0, 1, 1, 1);
        });
        book.says("and all that are FIXED with one another;", () -> {
            LevelRings x = of("point a;point b;point c;point d;point e;line e a up 1 1;");
            x.fix(3, 5);
            parts(x, 0, 1, 2, 3, 0);
            x.fix(1, -5);
            parts(x, 0, 1, 2, 1, 0);
            x.fix(4, 0);
            parts(x, 0, 0, 2, 0, 0);
            x.free(1);
            parts(x, 0, 1, 2, 0, 0);
        });
        book.says("a PART is all that are TIED.", () -> {
            LevelRings x = of("point a;point b;point c;point d;point e;point f;line f c up 1 1;line d b up 1 1;line e d up 1 1;");
            parts(x, 0, 1, 2, 1, 1, 2);
            x.fix(5, 1);
            x.fix(4, 1);
            parts(x, 0, 1, 1, 1, 1, 1);
        });
        book.says("The ROOT of a PART without a FIXED POINT is its least POINT, with HEIGHT 0.", () -> {
            LevelRings x = of("point a;point b;point c;point d up 7;point e;line c b up 4 1;line e d up 1 1;");
            int[] roots = {1, 1, 0, 0, 0};
            int[] heights = {0, 0, -4, 7, 6};
            for (int p = 0; p < 5; p++) {
                int q = p;
                due("ROOT " + p, x.point(p, 3), roots[p]);
                is("HEIGHT " + p, w -> x.height(q, w), heights[p], 1);
            }
            x.free(3);
            due("the least of a PART set free", x.point(3, 3), 1);
            is("its HEIGHT", w -> x.height(3, w), 0, 1);
            is("that of the other one", w -> x.height(4, w), -1, 1);
            x.fix(2, 9);
            due("a greater POINT is FIXED", x.point(1, 3), 0);
            is("its HEIGHT", w -> x.height(1, w), 13, 1);
        });
    }

    private static void heights(Book book) {
        book.says("HEIGHTS of all others that are not FIXED: those by which the SUM is least:", () -> {
            for (String text : NETS) {
                for (int struck = NONE; struck < of(text).count(1); struck++) {
                    LevelRings x = of(text);
                    x.strike(struck);
                    balanced(x);
                }
            }
        });
        book.says("of all SOUND LINES WEIGHT times the square of OFF together.", () -> {
            for (String text : NETS) {
                for (int struck = NONE; struck < of(text).count(1); struck++) {
                    LevelRings x = of(text);
                    x.strike(struck);
                    Model.Frac sum = Model.Frac.ZERO;
                    for (int l = 0; l < x.count(1); l++) {
                        if (l != struck) {
                            Model.Frac off = climb(x, l).minus(rise(x, l));
                            sum = sum.plus(Model.Frac.of(x.line(l, 3)).times(off).times(off));
                        }
                    }
                    same("SUM of '" + text + "' without " + struck, frac(x::sum), sum);
                }
            }
        });
        book.says("OFF of a LINE: HEIGHT of SECOND less HEIGHT of FIRST less RISE.", () -> {
            eachLine((what, x, l) -> same(what, frac(w -> x.off(l, w)), climb(x, l).minus(rise(x, l))));
            is("above 0", w -> of(PAIR).off(0, w), 2, 1);
            is("below 0", w -> of(PAIR).off(1, w), -1, 1);
        });
    }

    /** Of the least SUM, what LINES pull at a POINT whose HEIGHT is sought cancels out. */
    private static void balanced(LevelRings x) {
        for (int p = 0; p < x.count(0); p++) {
            if (x.point(p, 0) == 1 || x.point(p, 3) == 1) {
                continue;
            }
            Model.Frac pull = Model.Frac.ZERO;
            for (int l = 0; l < x.count(1); l++) {
                Model.Frac by = climb(x, l).minus(rise(x, l)).times(Model.Frac.of(x.line(l, 3)));
                if (x.line(l, 4) == 1 && x.line(l, 0) == p) {
                    pull = pull.minus(by);
                }
                if (x.line(l, 4) == 1 && x.line(l, 1) == p) {
                    pull = pull.plus(by);
                }
            }
            same("what pulls at " + p, pull, Model.Frac.ZERO);
        }
    }

    // ---- the TREE and RINGS ----

    private static void rings(Book book) {
        book.says("TREE: SOUND LINES by number, each that ties POINTS that those ahead of it (and being FIXED) do not tie.", () -> {
            LevelRings x = of("point a;point b;point c;line a b up 1 1;line b a up 1 4;line b c up 1 1;line c a up 1 1;");
            due("the first two that tie", x.count(5), 0b0101);
            x.strike(0);
            due("without 0", x.count(5), 0b0110);
            x.strike(2);
            due("without 2", x.count(5), 0b1010);
            x.mend(0);
            due("with 0", x.count(5), 0b1001);
            x.fix(0, 1);
            x.fix(1, 1);
            due("two FIXED ones", x.count(5), 0b1000);
            x.fix(2, 1);
            due("all FIXED", x.count(5), 0);
            due("one between FIXED ones", of(FIXED).count(5), 0b1010);
        });
        book.says("RING of a SOUND LINE that is not in the TREE: the LINES of the TREE on the way from its FIRST POINT to its SECOND one", () -> {
            LevelRings x = of(CHAIN);
            due("the whole way", x.ring(x.add(3, 0, 0, 1)), 0b111);
            due("a part of it", x.ring(x.add(1, 3, 0, 1)), 0b110);
            due("one LINE", x.ring(x.add(2, 1, 0, 1)), 0b010);
            x.strike(0);
            due("now in the TREE", x.ring(3), NONE);
            due("still", x.ring(4), 0b110);
        });
        book.says("(it may go from a FIXED POINT to another one without a LINE);", () -> {
            LevelRings x = of(CHAIN);
            x.fix(0, 5);
            x.fix(3, 9);
            // FIXED: a and d; the LINE from c to d is not needed for the TREE.
            due("TREE", x.count(5), 0b011);
            due("from d to a, on to c", x.ring(2), 0b011);
            due("between FIXED ones", x.ring(x.add(0, 3, 4, 1)), 0);
            due("from b to a, over to d", x.ring(x.add(1, 3, 4, 1)), 0b001);
        });
        book.says("it CLOSES by: its RISE less that of the way", () -> {
            LevelRings x = of("point a;point b;point c;line a b up 5 1;line b c up 3 1;");
            due("10 - 8", x.closes(x.add(0, 2, 10, 1)), 2);
            due("8 - 8", x.closes(x.add(0, 2, 8, 4)), 0);
            due("-99 - 8", x.closes(x.add(0, 2, -99, 1)), -107);
            due("3 - 5", x.closes(x.add(0, 1, 3, 1)), -2);
        });
        book.says("(a LINE gone against counts less;", () -> {
            LevelRings x = of("point a;point b;point c;line b a up 5 1;line b c up 3 1;");
            due("10 - (-5 + 3)", x.closes(x.add(0, 2, 10, 1)), 12);
            due("10 - (-3 + 5)", x.closes(x.add(2, 0, 10, 1)), 8);
            due("10 - -5", x.closes(x.add(0, 1, 10, 1)), 15);
            LevelRings most = of("point a;point b;point c;point d;point e;point f;line b a up 99 1;line c b up 99 1;"
                + "line d c up 99 1;line e d up 99 1;line f e up 99 1;line a f up 99 1;line a f down 99 1;");
            due("the most there can be", most.closes(5), 6 * 99);
            due("the other way", most.closes(6), 4 * 99);
        });
        book.says("from a FIXED POINT to another one: HEIGHT of that one less HEIGHT of this).", () -> {
            LevelRings x = of("point a up 10;point b down 4;point c;line a c up 3 1;");
            due("5 - (-4 - 10)", x.closes(x.add(0, 1, 5, 1)), 19);
            due("5 - (10 - -4)", x.closes(x.add(1, 0, 5, 1)), -9);
            due("5 - (10 - -4 + 3)", x.closes(x.add(1, 2, 5, 1)), -12);
            due("5 - (-3 - 14)", x.closes(x.add(2, 1, 5, 1)), 22);
        });
        book.says("A SOUND LINE is a BRIDGE, if its POINTS are not TIED without it.", () -> {
            eachLine((what, x, l) -> {
                LevelRings y = copy(x);
                y.strike(l);
                due(what, x.line(l, 6), y.point(x.line(l, 0), 2) == y.point(x.line(l, 1), 2) ? 0 : 1);
            });
            LevelRings x = of(CHAIN);
            due("all", x.count(4), 0b111);
            x.fix(0, 1);
            due("one FIXED", x.count(4), 0b111);
            x.fix(2, 1);
            due("between FIXED ones", x.count(4), 0b100);
            x.strike(2);
            due("a STRUCK one", x.count(4), 0);
        });
    }

    // ---- what LINES tell of one another ----

    private static void checks(Book book) {
        book.says("CHECK of a SOUND LINE: OFF of it, if its RISE were -1 and all other RISES, and HEIGHTS of FIXED POINTS, were 0", () ->
            eachLine((what, x, l) -> {
                LevelRings y = copy(x);
                for (int p = 0; p < y.count(0); p++) {
                    if (y.point(p, 0) == 1) {
                        y.fix(p, 0);
                    }
                }
                for (int i = 0; i < y.count(1); i++) {
                    y.read(i, i == l ? -1 : 0);
                }
                same(what, frac(w -> x.check(l, w)), frac(w -> y.off(l, w)));
            }));
        book.says("(so of a BRIDGE it is 0).", () -> {
            eachLine((what, x, l) -> due(what, x.check(l, 0) == 0, x.line(l, 6) == 1));
            is("a BRIDGE", w -> of(FIXED).check(3, w), 0, 1);
            is("between FIXED ones it is 1", w -> of(FIXED).check(0, w), 1, 1);
        });
        book.says("FALL of one: the SUM less that without it.", () -> {
            eachLine((what, x, l) -> {
                LevelRings y = copy(x);
                y.strike(l);
                same(what, frac(w -> x.fall(l, w)), frac(x::sum).minus(frac(y::sum)));
            });
            is("a BRIDGE", w -> of(FIXED).fall(3, w), 0, 1);
            is("one that is not off", w -> of("point a;point b;line a b up 2 1;line a b up 2 3;").fall(0, w), 0, 1);
        });
        book.says("WANTED of one that is no BRIDGE: HEIGHT of SECOND less HEIGHT of FIRST without it.", () ->
            eachLine((what, x, l) -> {
                LevelRings y = copy(x);
                y.strike(l);
                if (x.line(l, 6) == 0) {
                    same(what, frac(w -> x.wanted(l, w)), climb(y, l));
                }
            }));
    }

    private static void blunders(Book book) {
        book.says("BLUNDER: the LINE with the greatest FALL,", () -> {
            for (String text : NETS) {
                for (int struck = NONE; struck < of(text).count(1); struck++) {
                    LevelRings x = of(text);
                    x.strike(struck);
                    due("of '" + text + "' without " + struck, x.blunder(), greatest(x));
                }
            }
            due("a FALL of 50, one of 3", of(FIXED).blunder(), 0);
            LevelRings x = of(FIXED);
            x.read(0, -25);
            due("a FALL of 0, one of 3", x.blunder(), 1);
        });
        book.says("if that is above 0;", () -> {
            due("BRIDGES alone", of(CHAIN).blunder(), NONE);
            due("one that is not off", of("point a;point b;line a b up 2 1;line b a down 2 3;").blunder(), NONE);
            due("between FIXED ones", of("point a up 2;point b up 5;line a b up 3 4;").blunder(), NONE);
            due("by the least there is", of("point a up 2;point b up 5;line a b up 4 1;").blunder(), 0);
        });
        book.says("of like ones the least.", () -> {
            due("of two", of(PAIR).blunder(), 0);
            due("of three", of(RING).blunder(), 0);
            LevelRings x = of(RING);
            x.add(0, 2, 8, 1);
            x.strike(0);
            due("of those left", x.blunder(), 2);
            due("behind a lesser one", of("point a up 0;point b up 0;line a b up 1 1;line a b up 2 1;line a b down 2 1;").blunder(), 1);
        });
        book.says("To SNOOP for n: as long as there is a BLUNDER with a FALL above n, it is STRUCK.", () -> {
            for (String text : NETS) {
                for (int n : new int[] {0, 1, 5, 6, 49, 50, 51, 500, 9999}) {
                    snoopByHand(text, n);
                }
            }
            // A LINE between FIXED POINTS that is off by 7 has a FALL of 49.
            String seven = "point a up 0;point b up 0;line a b up 7 1;line a b up 0 1;line b a down 7 1;";
            due("not above 49", of(seven).snoop(49), 0);
            due("above 48", of(seven).snoop(48), 2);
            due("above 0", of(seven).snoop(0), 2);
        });
    }

    private static int greatest(LevelRings x) {
        int greatest = NONE;
        Model.Frac most = Model.Frac.ZERO;
        for (int l = 0; l < x.count(1); l++) {
            int line = l;
            if (x.line(l, 4) == 1 && frac(w -> x.fall(line, w)).compare(most) > 0) {
                greatest = l;
                most = frac(w -> x.fall(line, w));
            }
        }
        return greatest;
    }

    private static void snoopByHand(String text, int n) {
        LevelRings x = of(text);
        LevelRings y = of(text);
        int struck = 0;
        for (int i = 0; i < 11; i++) {
            int l = y.blunder();
            if (l == NONE || frac(w -> y.fall(l, w)).compare(Model.Frac.of(n)) <= 0) {
                break;
            }
            y.strike(l);
            struck++;
        }
        due("snoop " + n + " of '" + text + "'", x.snoop(n), struck);
        for (int l = 0; l < x.count(1); l++) {
            due("SOUND " + l + " behind snoop " + n + " of '" + text + "'", x.line(l, 4), y.line(l, 4));
        }
    }

    private static void doubts(Book book) {
        book.says("DOUBT of two TIED POINTS: 1 goes from the one to the other one along SOUND LINES, parted at POINTS as one likes", () -> {
            LevelRings x = of(CHAIN);
            is("one after the other: 1/1 + 1/2 + 1/3", w -> x.doubt(0, 3, w), 11, 6);
            is("either way", w -> x.doubt(3, 0, w), 11, 6);
            x.add(3, 0, 50, 2);
            // 1 by (6/11 + 2)
            is("parted", w -> x.doubt(0, 3, w), 11, 28);
            x.strike(1);
            is("SOUND LINES alone", w -> x.doubt(0, 3, w), 1, 2);
            LevelRings y = of("point a;point b;point c;point d;line a b up 1 1;line a c up 1 1;line b d up 1 1;line c d up 1 1;"
                + "line b c up 1 4;");
            is("nothing goes across", w -> y.doubt(0, 3, w), 1, 1);
            is("1 by (4 + 1/2 + 1/2)", w -> y.doubt(1, 2, w), 1, 5);
        });
        book.says("(all FIXED ones are one POINT):", () -> {
            LevelRings x = of(CHAIN);
            x.fix(0, 50);
            x.fix(3, -50);
            // b goes to a by 1, to d by 1 / (1/2 + 1/3) = 6/5
            is("two ways", w -> x.doubt(1, 0, w), 5, 11);
            is("two ways, to the other one", w -> x.doubt(1, 3, w), 5, 11);
            // b and c: 2 + 1 / (1/1 + 1/3) = 11/4
            is("through FIXED ones", w -> x.doubt(1, 2, w), 4, 11);
        });
        book.says("the least that the squares of what goes along each LINE, divided by its WEIGHT, come to together", () -> {
            for (int w = 1; w <= 4; w++) {
                LevelRings x = of("point a;point b;line a b up 9 " + w + ";");
                is("one LINE of " + w, h -> x.doubt(0, 1, h), 1, x.line(0, 3));
                x.add(1, 0, -9, 1);
                is("and one of 1", h -> x.doubt(0, 1, h), 1, x.line(0, 3) + 1);
            }
            is("two thirds", w -> of(RING).doubt(1, 2, w), 2, 3);
        });
        book.says("(0 of one POINT, of two FIXED ones).", () -> {
            for (String text : NETS) {
                LevelRings x = of(text);
                for (int p = 0; p < x.count(0); p++) {
                    for (int q = 0; q < x.count(0); q++) {
                        int a = p;
                        int b = q;
                        if (p == q || x.point(p, 0) == 1 && x.point(q, 0) == 1) {
                            is(p + " and " + q + " of '" + text + "'", w -> x.doubt(a, b, w), 0, 1);
                        }
                    }
                }
            }
        });
        book.says("NEXT: of all pairs of POINTS (the lesser first) that are TIED that of the greatest DOUBT,", () -> {
            next(of(CHAIN), 0, 3);
            next(of("point a;point b;point c;line c a up 1 1;line b a up 1 2;"), 1, 2);
            next(of("point a;point b;point c;point d;line b a up 1 3;line d c up 1 2;"), 2, 3);
            next(of("point a up 1;point b;point c up 2;"), 0, 2);
        });
        book.says("of like ones the first.", () -> {
            next(of(RING), 0, 1);
            next(of("point a;point b;point c;point d;line c d up 1 1;line a b up 1 1;"), 0, 1);
            next(of("point a;point b;point c;point d;line a b up 1 2;line a c up 1 1;line a d up 1 1;"), 2, 3);
            next(of("point a;point b;point c;point d;line a b up 1 1;line a c up 1 1;line a d up 1 1;"), 1, 2);
            next(of("point a;point b up 1;point c up 2;point d up 3;"), 1, 2);
        });
        book.says("ROUNDED: the greatest whole number not above HEIGHT and a half.", () -> {
            for (int r = -5; r <= 5; r++) {
                LevelRings x = of("point a;point b;");
                x.add(0, 1, r, 1);
                due(r + " itself", x.rounded(1), r);
                x.add(0, 1, r + 1, 1);
                due(r + " and a half", x.rounded(1), r + 1);
                x.weigh(1, 2);
                due(r + " and two thirds", x.rounded(1), r + 1);
                x.weigh(1, 1);
                x.weigh(0, 2);
                due(r + " and a third", x.rounded(1), r);
            }
        });
    }

    private static void next(LevelRings x, int lesser, int other) {
        due("the lesser one", x.next(0), lesser);
        due("the other one", x.next(1), other);
    }

    // ---- draws ----

    private static final int[] SEEDS = {0, 1, -1, 77, 12345, -1103515245, 1 << 30, 1 << 31, MOST, LEAST + 1};

    private static void draws(Book book) {
        book.says("DRAWN by a seed s: for each draw of n s becomes s * 1103515245 + 12345 (an int, wrapping),", () -> {
            for (int seed : SEEDS) {
                for (int n = 1; n <= 60; n += n < 5 ? 1 : 11) {
                    drawByHand(LARGE, 0, n, seed);
                }
            }
        });
        book.says("the draw is (s >>> 8) % n:", () -> {
            // Behind 1 << 31 s is below 0, as is every other one of a run: what is shifted in is 0, not 1.
            for (int lines = 1; lines <= 11; lines++) {
                LevelRings x = of("point a;point b;");
                for (int l = 0; l < lines; l++) {
                    x.add(0, 1, l, 1);
                }
                drawByHand(x, 60, 1 << 31);
                drawByHand(x, 60, 1);
            }
        });
        book.says("each SLIP: a draw of LINES, a draw of 9:", () -> {
            // Seed 10: 2445230203 (9551680: LINE 0 of 2), 1849040536 (7222814 % 9 = 8: 4)
            LevelRings x = of(PAIR);
            due("one", x.drawn(1, 10), 1);
            due("LINE 0", x.line(0, 2), 8);
            due("LINE 1", x.line(1, 2), 7);
            // Seed 4: 119106029 (465257: LINE 1 of 2), 3731259426 (14575232 % 9 = 2: -2)
            due("one", x.drawn(1, 4), 1);
            due("LINE 0", x.line(0, 2), 8);
            due("LINE 1", x.line(1, 2), 5);
            LevelRings y = of(PAIR);
            y.strike(0);
            due("a STRUCK one", y.drawn(1, 10), 1);
            due("LINE 0", y.line(0, 2), 8);
        });
        book.says("that less 4 is added to the RISE, if it stays -99 to 99", () -> {
            for (int rise = -99; rise <= 99; rise += rise == -94 ? 188 : 1) {
                LevelRings x = of(PAIR);
                x.read(0, rise);
                boolean up = rise + 4 <= 99;
                due("4 to " + rise, x.drawn(1, 10), up ? 1 : 0);
                due("RISE", x.line(0, 2), up ? rise + 4 : rise);
                LevelRings y = of(PAIR);
                y.read(1, rise);
                boolean down = rise - 2 >= -99;
                due("-2 to " + rise, y.drawn(1, 4), down ? 1 : 0);
                due("RISE", y.line(1, 2), down ? rise - 2 : rise);
            }
            for (int seed : SEEDS) {
                drawByHand(LARGE, 99, 60, seed);
                drawByHand(LARGE, -99, 60, seed);
            }
        });
        book.says("and that is not 0 (else none).", () -> {
            int nothing = 0;
            for (int seed = 0; seed < 60; seed++) {
                LevelRings x = of(PAIR);
                int came = x.drawn(1, seed);
                boolean moved = x.line(0, 2) != 4 || x.line(1, 2) != 7;
                due("came by " + seed, came, moved ? 1 : 0);
                due("acts", x.count(6), came);
                nothing += came == 0 ? 1 : 0;
            }
            due("some draws are 4", nothing > 0, true);
        });
    }

    private static void drawByHand(String text, int rise, int n, int seed) {
        LevelRings x = of(text);
        for (int l = 0; l < x.count(1) && rise != 0; l++) {
            x.read(l, rise);
        }
        drawByHand(x, n, seed);
    }

    /** The same in longs, where nothing wraps by itself. */
    private static void drawByHand(LevelRings x, int n, int seed) {
        int lines = x.count(1);
        long[] rises = new long[lines];
        for (int l = 0; l < lines; l++) {
            rises[l] = x.line(l, 2);
        }
        long whole = 1L << 32;
        long s = Math.floorMod((long) seed, whole);
        int came = 0;
        for (int i = 0; i < n; i++) {
            s = BigInteger.valueOf(s).multiply(BigInteger.valueOf(1103515245)).add(BigInteger.valueOf(12345))
                .mod(BigInteger.valueOf(whole)).longValueExact();
            int l = (int) (s / 256 % lines);
            s = BigInteger.valueOf(s).multiply(BigInteger.valueOf(1103515245)).add(BigInteger.valueOf(12345))
                .mod(BigInteger.valueOf(whole)).longValueExact();
            long slip = s / 256 % 9 - 4;
            if (slip != 0 && rises[l] + slip >= -99 && rises[l] + slip <= 99) {
                rises[l] += slip;
                came++;
            }
        }
        due("drawn " + n + " by " + seed, x.drawn(n, seed), came);
        for (int l = 0; l < lines; l++) {
            due("RISE of " + l + " behind " + n + " by " + seed, x.line(l, 2), rises[l]);
        }
    }

    // ---- fractions, and what holds for all calls ----

    private interface OfFraction {
        void ask(String what, Told told);
    }

    private static void eachFraction(OfFraction asked) {
        for (String text : NETS) {
            LevelRings x = of(text);
            asked.ask("sum", x::sum);
            for (int i = 0; i < x.count(0); i++) {
                int p = i;
                asked.ask("height " + p, w -> x.height(p, w));
                if (x.point(0, 2) == x.point(p, 2)) {
                    asked.ask("doubt " + p, w -> x.doubt(0, p, w));
                }
            }
            for (int i = 0; i < x.count(1); i++) {
                int l = i;
                asked.ask("off " + l, w -> x.off(l, w));
                asked.ask("check " + l, w -> x.check(l, w));
                asked.ask("fall " + l, w -> x.fall(l, w));
                if (x.line(l, 6) == 0) {
                    asked.ask("wanted " + l, w -> x.wanted(l, w));
                }
            }
        }
    }

    private static void fractions(Book book) {
        book.says("All fractions are told by two numbers: 0 above, 1 below (above 0),", () -> {
            eachFraction((what, told) -> due(what + " below is above 0", told.half(1) > 0, true));
            is("one above 0", w -> of(RING).off(0, w), 1, 3);
            is("one below 0", w -> of(RING).off(2, w), -1, 3);
            is("a whole one below 0", w -> of(FIXED).wanted(0, w), -25, 1);
        });
        book.says("in least terms", () ->
            eachFraction((what, told) -> due(what + " in least terms",
                BigInteger.valueOf(told.half(0)).gcd(BigInteger.valueOf(told.half(1))).longValueExact(), 1)));
        book.says("(0 by 1, if it is 0).", () -> {
            LevelRings x = of("point a;point b;point c;line a b up 0 3;line b c up 0 2;line a c up 0 4;");
            is("sum", x::sum, 0, 1);
            is("height", w -> x.height(2, w), 0, 1);
            is("off", w -> x.off(1, w), 0, 1);
            is("fall", w -> x.fall(1, w), 0, 1);
            is("wanted", w -> x.wanted(1, w), 0, 1);
            is("doubt", w -> x.doubt(1, 1, w), 0, 1);
            x.strike(2);
            is("check", w -> x.check(1, w), 0, 1);
        });
    }

    private static void rest(Book book) {
        book.says("A new NET: all LINES SOUND,", () -> {
            LevelRings x = of(RING);
            x.strike(0);
            x.strike(2);
            Fed.net(x, RING);
            due("SOUND ones", x.count(2), 3);
            for (int l = 0; l < 3; l++) {
                due("SOUND " + l, x.line(l, 4), 1);
            }
        });
        book.says("nothing can be undone.", () -> {
            LevelRings x = busy();
            due("acts ahead", x.count(6), 3);
            x.net();
            due("acts", x.count(6), 0);
            due("undo", x.undo(), NONE);
            due("POINTS", x.count(0), 1);
            due("one behind it", x.fix(0, 4), 0);
            due("that one alone", x.undo(), 0);
            due("no more", x.undo(), NONE);
        });
        book.says("A call that throws changes nothing.", () -> {
            for (int i : new int[] {-1, 5, 7, 11, 32, LEAST, MOST}) {
                untouched("point " + i, Due::busy, x -> x.point(i, 0));
                untouched("point by " + i, Due::busy, x -> x.point(0, i));
                untouched("line " + i, Due::busy, x -> x.line(i, 0));
                untouched("line by " + i, Due::busy, x -> x.line(0, i));
                untouched("height " + i, Due::busy, x -> x.height(i, 0));
                untouched("off " + i, Due::busy, x -> x.off(i, 0));
                untouched("sum by " + i, Due::busy, x -> x.sum(i));
                untouched("check " + i, Due::busy, x -> x.check(i, 0));
                untouched("fall " + i, Due::busy, x -> x.fall(i, 0));
                untouched("wanted " + i, Due::busy, x -> x.wanted(i, 0));
                untouched("doubt " + i, Due::busy, x -> x.doubt(i, 0, 0));
            }
            untouched("off of a STRUCK one", Due::busy, x -> x.off(1, 0));
            untouched("wanted of a BRIDGE", Due::busy, x -> x.wanted(3, 0));
        });
        book.says("The constants: `HIDDEN = -1000000`: What is told for none where NONE could be a height.", () -> {
            due("HIDDEN", LevelRings.HIDDEN, -1000000);
            due("NONE", LevelRings.NONE, -1);
            LevelRings x = of("point a down 1;point b;line a b up 0 1;line a b down 1 1;");
            due("a HEIGHT of -1", x.point(0, 1), -1);
            due("one that is not FIXED", x.point(1, 1), HIDDEN);
            due("ROUNDED to -1", x.rounded(0), -1);
            due("no such POINT", x.rounded(2), HIDDEN);
            due("closes by -1", x.closes(1), -1);
            due("no RING", x.closes(0), HIDDEN);
        });
    }
}
