import java.util.function.ToLongFunction;

/** Promises 22 to 34: what changes a NET, what is refused, undone, kept and counted. */
final class ActSentences extends Due {
    private ActSentences() {
    }

    static void tell(Book book) {
        strike(book);
        mend(book);
        snoop(book);
        read(book);
        weigh(book);
        add(book);
        fix(book);
        free(book);
        drawn(book);
        undo(book);
        image(book);
        restore(book);
        count(book);
    }

    /** That the call answers so and changes nothing; busy() has 5 POINTS, 5 LINES, LINE 1 STRUCK, 4 FIXED at 12. */
    private static void idle(String what, ToLongFunction<LevelRings> call, long answer) {
        due(what, call.applyAsLong(busy()), answer);
        untouched(what, Due::busy, call::applyAsLong);
    }

    private static int[] noLines() {
        return AskSentences.outside(5);
    }

    private static LevelRings eleven() {
        LevelRings x = of("point a;point b;");
        for (int l = 0; l < 11; l++) {
            x.add(0, 1, l, 1);
        }
        return x;
    }

    // ---- acts ----

    private static void strike(Book book) {
        book.open("Promise 22: strike");
        book.says("A LINE is STRUCK: 0;", () -> {
            LevelRings x = eleven();
            for (int l = 10; l >= 0; l--) {
                due("strike " + l, x.strike(l), 0);
                due("SOUND", x.line(l, 4), 0);
                due("SOUND ones", x.count(2), l);
            }
            LevelRings y = of(RING);
            is("ahead", w -> y.height(2, w), 56, 3);
            y.strike(2);
            is("worked out anew", w -> y.height(2, w), 18, 1);
            due("an act", y.count(6), 1);
        });
        book.says("1: it is;", () -> idle("strike of a STRUCK one", x -> x.strike(1), 1));
        book.says("NONE: no such one.", () -> {
            for (int l : noLines()) {
                idle("strike " + l, x -> x.strike(l), NONE);
            }
            due("of none", new LevelRings().strike(0), NONE);
            due("a twelfth", eleven().strike(11), NONE);
        });
    }

    private static void mend(Book book) {
        book.open("Promise 23: mend");
        book.says("A LINE is SOUND again: 0;", () -> {
            LevelRings x = eleven();
            for (int l = 0; l < 11; l++) {
                x.strike(l);
            }
            for (int l = 10; l >= 0; l--) {
                due("mend " + l, x.mend(l), 0);
                due("SOUND", x.line(l, 4), 1);
                due("SOUND ones", x.count(2), 11 - l);
            }
            LevelRings y = of(RING);
            y.strike(2);
            is("ahead", w -> y.height(2, w), 18, 1);
            y.mend(2);
            is("worked out anew", w -> y.height(2, w), 56, 3);
            due("an act more", y.count(6), 2);
            LevelRings z = of(RING);
            z.snoop(0);
            due("one that snoop() struck", z.mend(0), 0);
        });
        book.says("1: it is;", () -> idle("mend of a SOUND one", x -> x.mend(0), 1));
        book.says("NONE: no such one.", () -> {
            for (int l : noLines()) {
                idle("mend " + l, x -> x.mend(l), NONE);
            }
            due("of none", new LevelRings().mend(0), NONE);
            due("a twelfth", eleven().mend(11), NONE);
        });
    }

    private static void snoop(Book book) {
        book.open("Promise 24: snoop");
        book.says("SNOOP for n (0 to 9999): how many were STRUCK;", () -> {
            String four = "point a;point b;line a b up 1 1;line a b up 2 1;line a b up 9 1;line a b up 30 1;";
            // FALLS: 26^2 * 3 / 4 = 507 of the last one, then 7.5^2 * 2 / 3 = 37.5, then 1/2
            int[] n = {9999, 507, 506, 38, 37, 1, 0};
            int[] due = {0, 0, 1, 1, 2, 2, 3};
            for (int i = 0; i < n.length; i++) {
                LevelRings x = of(four);
                due("snoop " + n[i], x.snoop(n[i]), due[i]);
                due("SOUND ones", x.count(2), 4 - due[i]);
                due("one act, if any", x.count(6), due[i] == 0 ? 0 : 1);
                due("none more", x.snoop(n[i]), 0);
            }
            // A LINE between FIXED POINTS that is off by 50 with WEIGHT 4 has a FALL of 10000.
            LevelRings most = of("point a up 0;point b up 50;line a b up 0 4;");
            due("10000 is above 9999", most.snoop(9999), 1);
            LevelRings all = of("point a up 99;point b down 99;");
            for (int l = 0; l < 11; l++) {
                all.add(0, 1, 99, 4);
            }
            due("all eleven", all.snoop(9999), 11);
            due("SOUND ones", all.count(2), 0);
            due("of none", new LevelRings().snoop(0), 0);
        });
        book.says("NONE: not as told.", () -> {
            for (int n : new int[] {-1, 10000, LEAST, MOST}) {
                idle("snoop " + n, x -> x.snoop(n), NONE);
                due("of none", new LevelRings().snoop(n), NONE);
            }
        });
    }

    private static void read(Book book) {
        book.open("Promise 25: read");
        book.says("A LINE has another RISE (-99 to 99): 0;", () -> {
            LevelRings x = of(PAIR);
            for (int rise = -99; rise <= 99; rise++) {
                due("read " + rise, x.read(0, rise), 0);
                due("RISE", x.line(0, 2), rise);
            }
            is("worked out anew", w -> x.height(1, w), 99 + 14, 3);
            LevelRings y = of(PAIR);
            y.strike(0);
            due("a STRUCK one", y.read(0, 5), 0);
            due("RISE", y.line(0, 2), 5);
            due("still STRUCK", y.line(0, 4), 0);
            due("the last one", eleven().read(10, 0), 0);
        });
        book.says("1: it has that;", () -> {
            idle("read", x -> x.read(0, -30), 1);
            idle("read of a STRUCK one", x -> x.read(1, 8), 1);
        });
        book.says("NONE: no such ones.", () -> {
            for (int l : noLines()) {
                idle("read " + l, x -> x.read(l, 1), NONE);
            }
            for (int rise : new int[] {-100, 100, -30 - 256, LEAST, MOST}) {
                idle("read " + rise, x -> x.read(0, rise), NONE);
            }
            due("of none", new LevelRings().read(0, 1), NONE);
            due("a twelfth", eleven().read(11, 1), NONE);
        });
    }

    private static void weigh(Book book) {
        book.open("Promise 26: weigh");
        book.says("A LINE has another WEIGHT (1 to 4): 0;", () -> {
            LevelRings x = of(PAIR);
            for (int w = 4; w >= 1; w--) {
                due("weigh " + w, x.weigh(0, w), 0);
                due("WEIGHT", x.line(0, 3), w);
            }
            x.weigh(0, 4);
            // (4 * 4 + 2 * 7) / 6
            is("worked out anew", w -> x.height(1, w), 5, 1);
            x.strike(1);
            due("a STRUCK one", x.weigh(1, 1), 0);
            due("WEIGHT", x.line(1, 3), 1);
            due("still STRUCK", x.line(1, 4), 0);
            due("the last one", eleven().weigh(10, 2), 0);
        });
        book.says("1: it has that;", () -> {
            idle("weigh", x -> x.weigh(0, 2), 1);
            idle("weigh of a STRUCK one", x -> x.weigh(1, 1), 1);
        });
        book.says("NONE: no such ones.", () -> {
            for (int l : noLines()) {
                idle("weigh " + l, x -> x.weigh(l, 1), NONE);
            }
            for (int w : new int[] {-1, 0, 5, LEAST, MOST}) {
                idle("weigh " + w, x -> x.weigh(0, w), NONE);
            }
            due("of none", new LevelRings().weigh(0, 1), NONE);
            due("a twelfth", eleven().weigh(11, 1), NONE);
        });
    }

    private static void add(Book book) {
        book.open("Promise 27: add");
        book.says("A new LINE, SOUND, behind all others: its number;", () -> {
            LevelRings x = of("point a;point b;point c;");
            for (int l = 0; l < 11; l++) {
                int rise = l % 2 == 0 ? -99 : 99;
                due("add " + l, x.add(l % 3, (l + 1) % 3, rise, l % 4 + 1), l);
                int[] due = {l % 3, (l + 1) % 3, rise, l % 4 + 1, 1};
                for (int what = 0; what < 5; what++) {
                    due("line " + l + " " + what, x.line(l, what), due[what]);
                }
                due("LINES", x.count(1), l + 1);
            }
            LevelRings y = of(PAIR);
            y.add(0, 1, 6, 1);
            y.strike(2);
            y.undo();
            y.undo();
            due("in the place of one undone", y.add(1, 0, -6, 4), 2);
            due("SOUND", y.line(2, 4), 1);
            // (4 + 14 + 24) / 7
            is("worked out anew", w -> y.height(1, w), 6, 1);
        });
        book.says("NONE: there are 11,", () -> {
            due("a twelfth", eleven().add(0, 1, 1, 1), NONE);
            untouched("a twelfth", ActSentences::eleven, x -> x.add(0, 1, 1, 1));
            LevelRings x = eleven();
            for (int l = 0; l < 11; l++) {
                x.strike(l);
            }
            due("STRUCK ones are LINES too", x.add(0, 1, 1, 1), NONE);
            LevelRings y = eleven();
            y.undo();
            due("there is room again", y.add(0, 1, 1, 1), 10);
        });
        book.says("no such ones.", () -> {
            for (int p : AskSentences.outside(5)) {
                idle("add first " + p, x -> x.add(p, 1, 1, 1), NONE);
                idle("add second " + p, x -> x.add(1, p, 1, 1), NONE);
                idle("add both " + p, x -> x.add(p, p, 1, 1), NONE);
            }
            for (int p = 0; p < 5; p++) {
                int like = p;
                idle("add like ones " + p, x -> x.add(like, like, 1, 1), NONE);
            }
            for (int rise : new int[] {-100, 100, LEAST, MOST}) {
                idle("add rise " + rise, x -> x.add(0, 1, rise, 1), NONE);
            }
            for (int w : new int[] {-1, 0, 5, LEAST, MOST}) {
                idle("add weight " + w, x -> x.add(0, 1, 1, w), NONE);
            }
            due("of none", new LevelRings().add(0, 1, 1, 1), NONE);
        });
    }

    private static void fix(Book book) {
        book.open("Promise 28: fix");
        book.says("A POINT is FIXED with a HEIGHT (-99 to 99): 0;", () -> {
            for (int height = -99; height <= 99; height += height == -97 ? 96 : height == 1 ? 96 : 1) {
                LevelRings x = of("point a;point b;point c;line a b up 1 1;");
                due("fix at " + height, x.fix(0, height), 0);
                due("FIXED", x.point(0, 0), 1);
                due("HEIGHT", x.point(0, 1), height);
                is("worked out anew", w -> x.height(1, w), x.point(0, 1) + 1, 1);
                due("another HEIGHT", x.fix(0, height == 5 ? 6 : 5), 0);
                due("HEIGHT", x.point(0, 1), height == 5 ? 6 : 5);
                due("acts", x.count(6), 2);
            }
            LevelRings six = of("point a;point b;point c;point d;point e;point f;");
            due("the last one", six.fix(5, 1), 0);
        });
        book.says("1: it is so;", () -> {
            idle("fix", x -> x.fix(1, 20), 1);
            idle("fix of one that fix() fixed", x -> x.fix(4, 12), 1);
            LevelRings x = of("point a;");
            due("a ROOT of HEIGHT 0 is not FIXED", x.fix(0, 0), 0);
            due("it is so", x.fix(0, 0), 1);
            x.free(0);
            due("it was so", x.fix(0, 0), 0);
        });
        book.says("NONE: no such ones.", () -> {
            for (int p : AskSentences.outside(5)) {
                idle("fix " + p, x -> x.fix(p, 1), NONE);
            }
            for (int height : new int[] {-100, 100, LEAST, MOST}) {
                idle("fix at " + height, x -> x.fix(0, height), NONE);
            }
            due("of none", new LevelRings().fix(0, 1), NONE);
        });
    }

    private static void free(Book book) {
        book.open("Promise 29: free");
        book.says("A POINT is FREE: 0;", () -> {
            LevelRings x = of(FIXED);
            due("free", x.free(1), 0);
            due("FIXED", x.point(1, 0), 0);
            due("HEIGHT", x.point(1, 1), HIDDEN);
            due("an act", x.count(6), 1);
            // Now a hangs from c alone, and b from a and c.
            due("worked out anew", x.count(5), 0b1011);
            due("the other one", x.free(2), 0);
            is("a ROOT", w -> x.height(0, w), 0, 1);
            LevelRings y = of("point a;point b up 9;line b a up 1 1;line a b up 1 1;");
            due("from a FIXED one", y.ring(1), 0b1);
            y.free(1);
            due("from the ROOT", y.ring(1), 0b1);
            due("1 - -1", y.closes(1), 2);
        });
        book.says("1: it is;", () -> {
            idle("free", x -> x.free(0), 1);
            LevelRings x = of(FIXED);
            x.free(1);
            due("again", x.free(1), 1);
            due("acts", x.count(6), 1);
        });
        book.says("NONE: no such one.", () -> {
            for (int p : AskSentences.outside(5)) {
                idle("free " + p, x -> x.free(p), NONE);
            }
            // A shift by 33 is one by 1, and POINT 1 is FIXED.
            idle("free 33", x -> x.free(33), NONE);
            due("of none", new LevelRings().free(0), NONE);
        });
    }

    private static void drawn(Book book) {
        book.open("Promise 30: drawn");
        book.says("n (1 to 60) SLIPS DRAWN by a seed: how many came;", () -> {
            due("one", of(PAIR).drawn(1, 10), 1);
            due("a slip of 0", of(PAIR).drawn(1, 20), 0);
            LevelRings x = eleven();
            int came = x.drawn(60, 10);
            due("of sixty", came > 40 && came < 60, true);
            LevelRings none = of("point a;point b;line a b up 97 1;");
            due("a slip of 4 that can't stay", none.drawn(1, 10), 0);
            LevelRings y = of("point a up 0;point b;line a b up 4 1;");
            is("ahead", w -> y.height(1, w), 4, 1);
            y.drawn(1, 10);
            is("worked out anew", w -> y.height(1, w), 8, 1);
        });
        book.says("NONE: not as told.", () -> {
            for (int n : new int[] {-1, 0, 61, LEAST, MOST}) {
                idle("drawn " + n, x -> x.drawn(n, 10), NONE);
                due("of none", new LevelRings().drawn(n, 10), NONE);
            }
            idle("a slip of 0", x -> x.drawn(1, seedOfNothing()), 0);
        });
        book.says("(No LINES: 0, nothing is drawn.)", () -> {
            for (int n : new int[] {1, 60}) {
                due("of none", new LevelRings().drawn(n, 10), 0);
                untouched("of none", LevelRings::new, x -> x.drawn(n, 10));
                untouched("of POINTS alone", () -> of("point a;point b up 3;"), x -> x.drawn(n, 10));
            }
        });
    }

    /** A seed by which the first SLIP of five LINES is 0. */
    private static int seedOfNothing() {
        for (int seed = 0; seed < 100; seed++) {
            int second = (seed * 1103515245 + 12345) * 1103515245 + 12345;
            if ((second >>> 8) % 9 == 4) {
                return seed;
            }
        }
        throw new IllegalStateException();
    }

    // ---- what is kept ----

    private static void undo(Book book) {
        book.open("Promise 31: undo");
        book.says("The latest strike(), mend(), read(), weigh(), fix(), free() that was 0, add() that was not NONE, snoop(), drawn() above 0 is undone:", () -> {
            undone("strike", x -> x.strike(0), 0);
            undone("mend", x -> x.mend(1), 0);
            undone("read", x -> x.read(0, 3), 0);
            undone("read of a STRUCK one", x -> x.read(1, 3), 0);
            undone("weigh", x -> x.weigh(0, 1), 0);
            undone("fix", x -> x.fix(0, 3), 0);
            undone("fix of a FIXED one", x -> x.fix(1, 3), 0);
            undone("free", x -> x.free(1), 0);
            undone("add", x -> x.add(0, 1, 1, 1), 5);
            undone("snoop of two", x -> x.snoop(0), 2);
            undone("snoop of one", x -> x.snoop(50), 1);
            undone("drawn", x -> x.drawn(1, 10), 1);
            // These are no acts, so that the latest one is the fix() of busy().
            idle("snoop of 0", x -> x.snoop(9999), 0);
            idle("drawn of 0", x -> x.drawn(1, seedOfNothing()), 0);
            LevelRings x = busy();
            x.feed(0, 0, 0, 0, 0);
            x.end(0);
            x.image(0);
            x.height(0, 0);
            x.fault(0);
            due("what is asked is no act", x.count(6), 3);
            due("undo", x.undo(), 2);
            due("the fix()", x.point(4, 0), 0);
            due("undo", x.undo(), 1);
            due("the add()", x.count(1), 4);
            due("undo", x.undo(), 0);
            due("the strike()", x.line(1, 4), 1);
            is("worked out anew", w -> x.height(0, w), 9, 2);
        });
        book.says("how many more can be", () -> {
            LevelRings x = of(PAIR);
            for (int i = 1; i <= 5; i++) {
                x.read(0, 10 + i);
            }
            for (int left = 4; left >= 2; left--) {
                due("undo", x.undo(), left);
                due("acts", x.count(6), left);
                due("RISE", x.line(0, 2), 10 + left);
            }
            x.read(0, 50);
            due("an act behind them", x.undo(), 2);
            due("undo", x.undo(), 1);
            due("undo", x.undo(), 0);
            due("RISE", x.line(0, 2), 4);
        });
        book.says("(8 at most are kept);", () -> {
            for (int acts : new int[] {7, 8, 9, 10, 17}) {
                LevelRings x = of(PAIR);
                for (int i = 1; i <= acts; i++) {
                    x.read(0, 10 + i);
                    due("acts", x.count(6), Math.min(i, 8));
                }
                for (int left = Math.min(acts, 8) - 1; left >= 0; left--) {
                    due("undo", x.undo(), left);
                }
                due("no more of " + acts, x.undo(), NONE);
                due("RISE behind " + acts, x.line(0, 2), acts <= 8 ? 4 : 10 + acts - 8);
            }
        });
        book.says("NONE: none is.", () -> {
            due("of none", new LevelRings().undo(), NONE);
            due("of a new NET", of(PAIR).undo(), NONE);
            untouched("undo of a new NET", () -> of(PAIR), LevelRings::undo);
            LevelRings x = of(PAIR);
            x.strike(0);
            x.undo();
            due("of one undone", x.undo(), NONE);
            due("it is not done again", x.line(0, 4), 1);
        });
    }

    private static void undone(String what, ToLongFunction<LevelRings> act, long answer) {
        LevelRings x = busy();
        due(what, act.applyAsLong(x), answer);
        due(what + " is an act", x.count(6), 4);
        due(what + " undone", x.undo(), 3);
        alike(what + " undone", x, busy());
    }

    private static void image(Book book) {
        book.open("Promise 32: image");
        book.says("The NET is kept in place k (0, 1): true;", () -> {
            for (int k = 0; k < 2; k++) {
                LevelRings x = busy();
                due("image " + k, x.image(k), true);
                due("what can be undone stays", x.count(6), 3);
                due("the tape stays", x.count(7), 8);
                due("what fault() tells stays", x.fault(0), 3);
            }
            LevelRings x = of(PAIR);
            x.image(0);
            x.strike(0);
            x.image(1);
            x.read(1, 50);
            x.restore(0);
            due("place 0: SOUND", x.line(0, 4), 1);
            due("place 0: RISE", x.line(1, 2), 7);
            x.restore(1);
            due("place 1: STRUCK", x.line(0, 4), 0);
            due("place 1: RISE", x.line(1, 2), 7);
            x.weigh(1, 4);
            x.image(1);
            x.weigh(1, 1);
            x.restore(1);
            due("kept anew", x.line(1, 3), 4);
            x.restore(0);
            due("the other place is not", x.line(1, 3), 2);
            LevelRings none = new LevelRings();
            due("of none", none.image(1), true);
            Fed.net(none, PAIR);
            due("it stays behind net()", none.restore(1), true);
            due("POINTS", none.count(0), 0);
            due("LINES", none.count(1), 0);
        });
        book.says("false: no such one.", () -> {
            for (int k : AskSentences.outside(2)) {
                idle("image " + k, x -> x.image(k) ? 1 : 0, 0);
                LevelRings x = new LevelRings();
                x.image(k);
                due("nothing is kept by " + k, x.restore(0) || x.restore(1), false);
            }
        });
    }

    private static void restore(Book book) {
        book.open("Promise 33: restore");
        book.says("It is as kept in place k", () -> {
            LevelRings x = of(FIXED);
            x.strike(1);
            x.image(0);
            String kept = Trace.now(x);
            x.mend(1);
            x.fix(0, 3);
            x.free(1);
            x.weigh(3, 1);
            x.drawn(60, 5);
            x.snoop(0);
            x.add(0, 1, 1, 1);
            due("all is other", Trace.now(x).equals(kept), false);
            due("restore", x.restore(0), true);
            due("as kept", Trace.now(x).equals(kept), true);
            Fed.net(x, RING);
            due("restore behind net()", x.restore(0), true);
            due("as kept", Trace.now(x).equals(kept), true);
            x.strike(0);
            due("what is kept stays as it is", x.restore(0), true);
            due("as kept", Trace.now(x).equals(kept), true);
        });
        book.says("(the tape, and what fault() tells, stays;", () -> {
            LevelRings x = busy();
            due("restore", x.restore(1), true);
            due("kind", x.fault(0), 3);
            due("ROW", x.fault(1), 1);
            due("bytes", x.count(7), 8);
            due("its bytes", x.net(), 1);
            due("kind", x.fault(0), 0);
            x.restore(1);
            due("kind without one", x.fault(0), 0);
            due("ROW without one", x.fault(1), NONE);
        });
        book.says("nothing can be undone): true;", () -> {
            LevelRings x = busy();
            due("restore", x.restore(1), true);
            due("acts", x.count(6), 0);
            due("undo", x.undo(), NONE);
            x.weigh(0, 4);
            due("an act behind it", x.undo(), 0);
            due("WEIGHT", x.line(0, 3), 2);
        });
        book.says("false: no such one,", () -> {
            for (int k : AskSentences.outside(2)) {
                idle("restore " + k, x -> x.restore(k) ? 1 : 0, 0);
            }
        });
        book.says("or nothing is kept there.", () -> {
            idle("restore 0", x -> x.restore(0) ? 1 : 0, 0);
            LevelRings x = of(PAIR);
            due("place 1", x.restore(1), false);
            x.image(0);
            due("place 1, with place 0 kept", x.restore(1), false);
            due("place 0", x.restore(0), true);
        });
    }

    private static void count(Book book) {
        book.open("Promise 34: count");
        book.says("0 POINTS, 1 LINES, 2 SOUND ones,", () -> {
            LevelRings x = eleven();
            due("POINTS", x.count(0), 2);
            for (int l = 0; l < 11; l++) {
                due("LINES", x.count(1), 11);
                due("SOUND ones", x.count(2), 11 - l);
                x.strike(l);
            }
            due("six", of("point a;point b;point c;point d;point e;point f;").count(0), 6);
        });
        book.says("3 PARTS,", () -> {
            LevelRings x = of("point a;point b;point c;point d;point e;point f;");
            due("none TIED", x.count(3), 6);
            x.fix(0, 1);
            due("one FIXED", x.count(3), 6);
            x.fix(5, 1);
            due("two FIXED", x.count(3), 5);
            x.add(5, 3, 1, 1);
            due("a LINE", x.count(3), 4);
            x.add(0, 3, 1, 1);
            due("one that ties no more", x.count(3), 4);
            due("of none", new LevelRings().count(3), 0);
        });
        book.says("4 BRIDGES as bits,", () -> {
            LevelRings x = eleven();
            due("none", x.count(4), 0);
            for (int l = 0; l < 10; l++) {
                x.strike(l);
            }
            due("LINE 10", x.count(4), 1 << 10);
            due("in a NET with others", of(FIXED).count(4), 0b1000);
        });
        book.says("5 the TREE as bits,", () -> {
            LevelRings x = eleven();
            for (int l = 0; l < 11; l++) {
                due("LINE " + l, x.count(5), 1 << l);
                x.strike(l);
            }
            due("none left", x.count(5), 0);
            due("in a NET with others", of(FIXED).count(5), 0b1010);
        });
        book.says("6 acts that can be undone,", () -> {
            LevelRings x = of(PAIR);
            for (int i = 0; i <= 10; i++) {
                due("acts", x.count(6), Math.min(i, 8));
                x.read(0, 10 + i);
            }
            x.undo();
            due("acts", x.count(6), 7);
            Fed.net(x, PAIR);
            due("of a new NET", x.count(6), 0);
        });
        book.says("7 bytes of the tape.", () -> {
            LevelRings x = new LevelRings();
            for (int i = 0; i < 27; i++) {
                due("bytes", x.count(7), 20 * i);
                x.feed(0, 0, 0, 0, 0);
            }
            due("bytes", x.count(7), 540);
            x.end(1);
            due("one", x.count(7), 1);
            x.net();
            due("none", x.count(7), 0);
        });
        book.says("NONE for another what.", () -> {
            for (int what : AskSentences.outside(8)) {
                due("count " + what, busy().count(what), NONE);
                due("of none", new LevelRings().count(what), NONE);
            }
        });
    }
}
