/** What the document says of texts: the first half of the Terms, promises 1 to 5. */
final class TextSentences extends Due {
    /** Sixteen bytes, two ROWS. */
    private static final String TWO = "point a;point b;";
    /** Forty-eight bytes, six ROWS. */
    private static final String SIX = "point a;point b;point c;point d;point e;point f;";
    private static final String[] FOUR = {"point", "line", "up", "down"};

    private TextSentences() {
    }

    static void tell(Book book) {
        book.open("Terms");
        tokens(book);
        rows(book);
        heightsAndNames(book);
        whereFaultsAre(book);
        kindsOfFaults(book);
        tape(book);
        net(book);
        fault(book);
    }

    // ---- what a text is made of ----

    private static void tokens(Book book) {
        book.says("TOKENS of a text, with blanks (32, 10) between them or not:", () -> {
            reads(" \n point \n a \n up \n 1 \n ; \n point\nb\n;\nline a\nb\ndown\n3\n2\n;\n\n ", 3);
            reads("point a up 1;point b;line a b down 3 2;", 3);
            reads("\n", 0);
            reads(" ", 0);
            for (char other : new char[] {0, 9, 11, 12, 13, 31, 33, 127, 160, 255}) {
                faultAt("point" + other + "a;", 1, 5, 0);
                faultAt("point a;" + other, 1, 8, 1);
            }
        });
        book.says("WORDS: small letters, 1 to 7;", () -> {
            for (int n = 1; n <= 7; n++) {
                reads("point " + "z".repeat(n) + ";", 1);
            }
            for (int n = 8; n <= 30; n++) {
                faultAt("point " + "z".repeat(n) + ";", 1, 6, 0);
            }
            faultAt("point abcdefg;line abcdefgh b up 1 1;", 1, 19, 1);
            for (char letter = 'a'; letter <= 'z'; letter++) {
                reads("point " + letter + ";point " + letter + letter + ";", 2);
            }
            faultAt("Point a;", 1, 0, 0);
            faultAt("point A;", 1, 6, 0);
            faultAt("point Z;", 1, 6, 0);
        });
        book.says("NUMBERS: 1 or 2 digits;", () -> {
            for (int n = 0; n <= 99; n++) {
                due("up " + n, of("point a up " + n + ";").point(0, 1), n);
            }
            due("up 05", of("point a up 05;").point(0, 1), 5);
            faultAt("point a up 100;", 1, 11, 0);
            faultAt("point a up 001;", 1, 11, 0);
            faultAt("point a up 1234567890123456789012;", 1, 11, 0);
            faultAt(TWO + "line a b up 1 001;", 1, 30, 2);
            faultAt("point a up /;", 1, 11, 0);
            faultAt("point a up :;", 1, 11, 0);
        });
        book.says("the sign ;", () -> {
            reads("point a;point b ;point c\n;\npoint d;", 4);
            faultAt(";", 1, 0, 0);
            faultAt("point a:", 1, 7, 0);
            faultAt("point a<", 1, 7, 0);
            faultAt("point a,point b;", 1, 7, 0);
        });
        book.says("(A WORD, NUMBER goes on as long as small letters and digits do;", () -> {
            faultAt("point a1;", 1, 6, 0);
            faultAt("point 1a;", 1, 6, 0);
            faultAt("point a1b;", 1, 6, 0);
            faultAt("pointa;", 1, 0, 0);
            faultAt("point1 a;", 1, 0, 0);
            faultAt("point a up1;", 1, 8, 0);
            faultAt("point a up 1point b;", 1, 11, 0);
            faultAt(TWO + "line a b up 1 1line", 1, 30, 2);
            faultAt(TWO + "line ab up 1 1;", 3, 21, 2);
            faultAt(TWO + "line a b up 11;", 1, 30, 2);
        });
        book.says("what is not as told is no TOKEN.)", () -> {
            for (char c = 0; c < 256; c++) {
                boolean letter = c >= 'a' && c <= 'z';
                if (c == ' ' || c == '\n' || letter) {
                    reads("point a" + c + ";", 1);
                } else if (c >= '0' && c <= '9') {
                    faultAt("point a" + c + ";", 1, 6, 0);
                } else {
                    faultAt("point a" + c + ";", 1, c == ';' ? 8 : 7, c == ';' ? 1 : 0);
                }
            }
        });
    }

    private static void rows(Book book) {
        book.says("A NET is a text of at most 500 bytes:", () -> {
            reads("point a;" + blanks(491), 1);
            reads("point a;" + blanks(492), 1);
            reads(blanks(492) + "point a;", 1);
            reads(blanks(500), 0);
            faultAt("point a;" + blanks(493), 1, 500, 1);
            faultAt(blanks(501), 1, 500, 0);
            faultAt(blanks(540), 1, 500, 0);
        });
        book.says("{ ROW ; }.", () -> {
            reads("", 0);
            reads("point a;", 1);
            reads(TWO, 2);
            faultAt("point a", 1, 7, 0);
            faultAt("point a;point b", 1, 15, 1);
            faultAt("point a;;", 1, 8, 1);
            faultAt("point a point b;", 1, 8, 0);
        });
        book.says("ROW: 'point' NAME [ HEIGHT ]", () -> {
            reads("point a;point b up 1;point c down 1;", 3);
            faultAt("a;", 1, 0, 0);
            faultAt("1;", 1, 0, 0);
            faultAt("up 1;", 1, 0, 0);
            faultAt("point;", 1, 5, 0);
            faultAt("point 1;", 1, 6, 0);
            faultAt("point a b;", 1, 8, 0);
            faultAt("point a 1;", 1, 8, 0);
            faultAt("point a line;", 1, 8, 0);
            faultAt("point a up;", 1, 10, 0);
            faultAt("point a up down 1;", 1, 11, 0);
            faultAt("point a up 1 2;", 1, 13, 0);
            faultAt("point a up 1 down 2;", 1, 13, 0);
        });
        book.says("| 'line' POINT POINT HEIGHT WEIGHT", () -> {
            reads(TWO + "line a b up 1 1;line b a down 2 3;", 4);
            faultAt(TWO + "line;", 1, 20, 2);
            faultAt(TWO + "line 1 b up 1 1;", 1, 21, 2);
            faultAt(TWO + "line a;", 1, 22, 2);
            faultAt(TWO + "line a 1 up 1 1;", 1, 23, 2);
            faultAt(TWO + "line a up 1 1;", 1, 23, 2);
            faultAt(TWO + "line a b;", 1, 24, 2);
            faultAt(TWO + "line a b 1 1;", 1, 25, 2);
            faultAt(TWO + "line a b a up 1 1;", 1, 25, 2);
            faultAt(TWO + "line a b up;", 1, 27, 2);
            faultAt(TWO + "line a b up up 1;", 1, 28, 2);
            faultAt(TWO + "line a b up 1;", 1, 29, 2);
            faultAt(TWO + "line a b up 1 a;", 1, 30, 2);
            faultAt(TWO + "line a b up 1 1 1;", 1, 32, 2);
            faultAt(TWO + "line a b up 1 1 up", 1, 32, 2);
        });
        book.says("(unlike POINTS;", () -> {
            faultAt(TWO + "line a a up 1 1;", 3, 23, 2);
            faultAt(TWO + "line b b up 1 1;", 3, 23, 2);
            reads(TWO + "line b a up 1 1;", 3);
        });
        book.says("WEIGHT 1 to 4).", () -> {
            for (int w = 0; w <= 99; w++) {
                for (String n : new String[] {"" + w, w < 10 ? "0" + w : "" + w}) {
                    if (w >= 1 && w <= 4) {
                        due("WEIGHT " + n, of(TWO + "line a b up 1 " + n + ";").line(0, 3), w);
                    } else {
                        faultAt(TWO + "line a b up 1 " + n + ";", 2, 30, 2);
                    }
                }
            }
        });
    }

    private static void heightsAndNames(Book book) {
        book.says("HEIGHT: 'up' N | 'down' N (below 0).", () -> {
            LevelRings x = of("point a up 0;point b up 00;point c up 99;point d down 1;point e down 99;point f down 0;"
                + "line a b up 0 1;line a b up 99 1;line a b down 1 1;line a b down 99 1;line a b down 09 1;"
                + "line a b down 0 1;");
            int[] heights = {0, 0, 99, -1, -99, 0};
            int[] rises = {0, 99, -1, -99, -9, 0};
            for (int i = 0; i < 6; i++) {
                due("FIXED " + i, x.point(i, 0), 1);
                due("HEIGHT " + i, x.point(i, 1), heights[i]);
                due("RISE " + i, x.line(i, 2), rises[i]);
            }
        });
        book.says("NAME: a WORD, none of these four;", () -> {
            for (String word : FOUR) {
                faultAt("point " + word + ";", 1, 6, 0);
                faultAt("point " + word + " up 1;", 1, 6, 0);
                faultAt(TWO + "line " + word + " b up 1 1;", 1, 21, 2);
                faultAt(TWO + "line a " + word + " up 1 1;", 1, 23, 2);
                reads("point " + word + "s;point x" + word + ";point " + word.substring(1) + ";", 3);
            }
        });
        book.says("told once.", () -> {
            faultAt("point a;point b;point a;", 3, 22, 2);
            faultAt("point a up 1;point a up 1;", 3, 19, 1);
            reads("point a;point aa;point ab;point ba;point b;", 5);
        });
        book.says("A POINT with a HEIGHT is FIXED, each other one FREE;", () -> {
            LevelRings x = of("point a up 0;point b;point c down 7;");
            int[][] due = {{1, 0}, {0, HIDDEN}, {1, -7}};
            for (int p = 0; p < 3; p++) {
                due("FIXED " + p, x.point(p, 0), due[p][0]);
                due("HEIGHT " + p, x.point(p, 1), due[p][1]);
            }
            Fed.net(x, "point a;point b up 3;point c;");
            for (int p = 0; p < 3; p++) {
                due("FIXED " + p + " behind another NET", x.point(p, 0), p == 1 ? 1 : 0);
            }
        });
        book.says("a LINE goes from its FIRST POINT to its SECOND one, its HEIGHT is its RISE.", () -> {
            LevelRings x = of(TWO + "point c;line c a down 12 3;line b c up 4 2;");
            int[][] due = {{2, 0, -12, 3}, {1, 2, 4, 2}};
            for (int l = 0; l < 2; l++) {
                for (int what = 0; what < 4; what++) {
                    due("line " + l + " " + what, x.line(l, what), due[l][what]);
                }
            }
        });
        book.says("6 POINTS, 11 LINES at most,", () -> {
            LevelRings x = of(SIX + lines(11));
            due("POINTS", x.count(0), 6);
            due("LINES", x.count(1), 11);
            due("the last RISE", x.line(10, 2), 10);
            due("the last POINT", x.point(5, 2), 5);
            faultAt(SIX + lines(11) + "point g;", 4, 48 + lines(11).length(), 17);
            faultAt(SIX + lines(12), 4, 48 + lines(11).length(), 17);
        });
        book.says("numbered from 0 as told.", () -> {
            LevelRings x = of("point z up 1;point y up 2;line y z up 3 1;point a up 4;line a z up 5 1;line z y up 6 1;");
            for (int p = 0; p < 3; p++) {
                due("HEIGHT " + p, x.point(p, 1), p == 2 ? 4 : p + 1);
            }
            int[][] due = {{1, 0, 3}, {2, 0, 5}, {0, 1, 6}};
            for (int l = 0; l < 3; l++) {
                for (int what = 0; what < 3; what++) {
                    due("line " + l + " " + what, x.line(l, what), due[l][what]);
                }
            }
        });
    }

    /** LINES from a to b with the RISES 0 and so on. */
    private static String lines(int n) {
        StringBuilder text = new StringBuilder();
        for (int i = 0; i < n; i++) {
            text.append("line a b up ").append(i).append(" 1;");
        }
        return text.toString();
    }

    // ---- faults ----

    private static void whereFaultsAre(Book book) {
        book.says("FAULTS, the first along the text,", () -> {
            faultAt(TWO + "line a b up 1 9;point a;!", 2, 30, 2);
            faultAt(TWO + "point a;line a b up 1 9;!", 3, 22, 2);
            faultAt(TWO + "!point a;line a b up 1 9;", 1, 16, 2);
            faultAt(SIX + "point a!", 4, 48, 6);
            faultAt(SIX + "line a a up 1 9;point g;", 3, 55, 6);
            faultAt("line a b up 1 9", 3, 5, 0);
        });
        book.says("of one TOKEN the least:", () -> {
            // Neither can come there, and neither is told.
            faultAt("line up b up 1 1;", 1, 5, 0);
            faultAt("line 7 b up 1 1;", 1, 5, 0);
            faultAt("line ! b up 1 1;", 1, 5, 0);
            faultAt("line ; b up 1 1;", 1, 5, 0);
            faultAt("line abcdefgh b up 1 1;", 1, 5, 0);
            // No NUMBER, and none of 1 to 4.
            faultAt(TWO + "line a b up 1 999;", 1, 30, 2);
            faultAt(TWO + "line a b up 1 0a;", 1, 30, 2);
            faultAt(TWO + "line a b up 1 !;", 1, 30, 2);
            // Not told, and as the first one.
            faultAt("line q q up 1 1;", 3, 5, 0);
            // It can't come there, and it would be a seventh.
            faultAt(SIX + "line a point", 1, 55, 6);
        });
        book.says("1 no TOKEN, or one that can't come (at it;", () -> {
            faultAt("*", 1, 0, 0);
            faultAt("  point a;\n\n*", 1, 12, 1);
            faultAt("  point a;\n\n;", 1, 12, 1);
            faultAt("  point a;\n\nup", 1, 12, 1);
            faultAt("  point a;\n\n1", 1, 12, 1);
            faultAt("  point  a  *", 1, 12, 0);
            faultAt("  point  a  b", 1, 12, 0);
        });
        book.says("the end: how many bytes there are;", () -> {
            String text = "point a up 5;point b;line a b down 1 2;";
            int[] rowOf = {0, 0, 0, 0, 1, 1, 2, 2, 2, 2, 2, 2};
            int[] ends = {5, 7, 10, 12, 18, 20, 25, 27, 29, 34, 36, 38};
            for (int i = 0; i < ends.length; i++) {
                faultAt(text.substring(0, ends[i]), 1, ends[i], rowOf[i]);
                faultAt(text.substring(0, ends[i]) + " \n ", 1, ends[i] + 3, rowOf[i]);
            }
            faultAt("point a" + blanks(493), 1, 500, 0);
            faultAt("point a" + blanks(492), 1, 499, 0);
        });
        book.says("500, if there are more and no FAULT is ahead:", () -> {
            for (int more : new int[] {1, 2, 20, 40}) {
                faultAt(TWO + blanks(484 + more), 1, 500, 2);
                faultAt(TWO + "line a" + blanks(478 + more), 1, 500, 2);
                faultAt(TWO + blanks(483) + "!" + blanks(more), 1, 499, 2);
                faultAt(TWO + "point a;" + blanks(476 + more), 3, 22, 2);
                faultAt(TWO + "line a b up 1 5;" + blanks(468 + more), 2, 30, 2);
                faultAt(SIX + "point" + blanks(447 + more), 4, 48, 6);
            }
            faultAt(TWO + blanks(484) + "!", 1, 500, 2);
            faultAt(TWO + blanks(490) + "!", 1, 500, 2);
            faultAt("point a" + blanks(492) + "; ", 1, 500, 1);
            faultAt("point a" + blanks(493) + ";", 1, 500, 0);
        });
        book.says("TOKENS that begin ahead of it are read whole);", () -> {
            faultAt(blanks(499) + "point a;", 1, 500, 0);
            faultAt(blanks(499) + "pointer a;", 1, 499, 0);
            faultAt("point " + blanks(493) + "abcdefg;", 1, 500, 0);
            faultAt("point " + blanks(493) + "abcdefgh;", 1, 499, 0);
            faultAt("point " + blanks(493) + "a1;", 1, 499, 0);
            faultAt("point " + "z".repeat(534), 1, 6, 0);
            faultAt("point a up " + "1".repeat(529), 1, 11, 0);
            faultAt("point a up " + blanks(488) + "12;", 1, 500, 0);
            faultAt("point a up " + blanks(488) + "123;", 1, 499, 0);
            faultAt(TWO + "line a b up 1 " + blanks(469) + "12;", 2, 499, 2);
            faultAt("point ab;point " + blanks(484) + "ab;", 3, 499, 1);
            faultAt("point ab;point " + blanks(484) + "abc;", 1, 500, 1);
            faultAt("point ab;point a;line " + blanks(477) + "abc", 3, 499, 2);
            faultAt("point ab;point a;line ab " + blanks(474) + "ab", 3, 499, 2);
            faultAt(SIX + blanks(451) + "point g;", 4, 499, 6);
            // What begins at 500 is not read at all.
            faultAt(SIX + blanks(452) + "point g;", 1, 500, 6);
            faultAt("point ab;point " + blanks(485) + "ab;", 1, 500, 1);
            faultAt(TWO + "line a b up 1 " + blanks(470) + "12;", 1, 500, 2);
        });
    }

    private static void kindsOfFaults(Book book) {
        book.says("2 a NUMBER that is not as told (at it);", () -> {
            faultAt(TWO + "line a b up 1 0;", 2, 30, 2);
            faultAt(TWO + "line a b up 1 5;", 2, 30, 2);
            faultAt(TWO + "line a b down 99 \n 99", 2, 35, 2);
            faultAt(TWO + "line a b up 1 1;line b a up 1 00", 2, 46, 3);
        });
        book.says("3 a NAME told twice,", () -> {
            faultAt("point a;point \n a;", 3, 16, 1);
            faultAt("point abcdefg;point b;point abcdefg", 3, 28, 2);
            faultAt(SIX.substring(0, 40) + "point e", 3, 46, 5);
        });
        book.says("or not told,", () -> {
            faultAt("line a b up 1 1;", 3, 5, 0);
            faultAt("point a;line b a up 1 1;", 3, 13, 1);
            faultAt("point a;line a b up 1 1;", 3, 15, 1);
            faultAt("point a;line a b up 1 1;point b;", 3, 15, 1);
            faultAt("point ab;line a ab up 1 1;", 3, 14, 1);
        });
        book.says("a second POINT that is the first one (at the WORD);", () -> {
            faultAt(TWO + "line b \n b up 1 1;", 3, 25, 2);
            faultAt(SIX + "line f f", 3, 55, 6);
        });
        book.says("4 a seventh POINT,", () -> {
            faultAt(SIX + "point g;", 4, 48, 6);
            faultAt(SIX + "  point a;", 4, 50, 6);
            faultAt(SIX + "line a b up 1 1;\npoint", 4, 65, 7);
            faultAt(SIX + "point!", 4, 48, 6);
            faultAt(SIX + "points", 1, 48, 6);
            faultAt(SIX.substring(0, 40) + "point", 1, 45, 5);
        });
        book.says("a twelfth LINE (at the ROW's first WORD).", () -> {
            String full = TWO + lines(11);
            faultAt(full + "line a b up 1 1;", 4, full.length(), 13);
            faultAt(full + " \nline a a", 4, full.length() + 2, 13);
            faultAt(full + "line", 4, full.length(), 13);
            faultAt(full + "lines", 1, full.length(), 13);
            faultAt(TWO + lines(10) + "line", 1, TWO.length() + lines(10).length() + 4, 12);
            reads(full + "point c;", 14);
        });
    }

    // ---- promises 1 to 5 ----

    private static void tape(Book book) {
        book.open("Promise 1: A new object");
        book.says("A NET without POINTS;", () -> {
            LevelRings x = new LevelRings();
            for (int what = 0; what < 7; what++) {
                due("count " + what, x.count(what), 0);
            }
            refuses("point", () -> x.point(0, 0));
            refuses("line", () -> x.line(0, 0));
            due("nothing can be undone", x.undo(), NONE);
            due("nothing is kept", x.restore(0) || x.restore(1), false);
        });
        book.says("an empty tape.", () -> {
            LevelRings x = new LevelRings();
            due("bytes", x.count(7), 0);
            due("one byte", x.end(1), false);
            due("no ROWS", x.net(), 0);
        });
        book.open("Promise 2: feed");
        book.says("Twenty bytes come behind the tape,", () -> {
            LevelRings x = new LevelRings();
            Fed.feed(x, "point a;po");
            x.feed(0x696e7420, 0x623b2020, 0x20202020, 0x20202020, 0x20202020);
            due("both", x.net(), 2);
        });
        book.says("of each number the highest first:", () -> {
            for (int i = 0; i < 40; i++) {
                LevelRings x = new LevelRings();
                int[] five = {0x20202020, 0x20202020, 0x20202020, 0x20202020, 0x20202020};
                if (i >= 20) {
                    x.feed(five[0], five[1], five[2], five[3], five[4]);
                }
                five[i % 20 / 4] |= 0xdf << 8 * (3 - i % 4);
                x.feed(five[0], five[1], five[2], five[3], five[4]);
                due("byte " + i, x.net(), -1 - i);
            }
        });
        book.says("how many it has;", () -> {
            LevelRings x = new LevelRings();
            for (int i = 1; i <= 27; i++) {
                due("feed " + i, x.feed(-1, 0, MOST, LEAST, i), 20 * i);
                due("bytes", x.count(7), 20 * i);
            }
            x.end(7);
            due("behind seven", x.feed(0, 0, 0, 0, 0), 27);
        });
        book.says("NONE, and none come, if it would have more than 540.", () -> {
            for (int n : new int[] {520, 521, 522, 539, 540}) {
                LevelRings x = new LevelRings();
                for (int i = 0; i < 27; i++) {
                    x.feed(0, 0, 0, 0, 0);
                }
                x.end(n);
                due("feed behind " + n, x.feed(0, 0, 0, 0, 0), n == 520 ? 540 : NONE);
                due("bytes behind " + n, x.count(7), n == 520 ? 540 : n);
            }
            untouched("feed of a full tape", TextSentences::full, x -> x.feed(0x21212121, 0, 0, 0, 0));
            LevelRings x = full();
            x.net();
            due("there is room again", x.feed(0, 0, 0, 0, 0), 20);
        });
        end(book);
    }

    private static LevelRings full() {
        LevelRings x = busy();
        Fed.feed(x, "point z;" + blanks(532));
        return x;
    }

    private static void end(Book book) {
        book.open("Promise 3: end");
        book.says("The tape has its first n bytes alone: true;", () -> {
            for (int n = 0; n <= 20; n++) {
                LevelRings x = new LevelRings();
                x.feed(0x20202020, 0x20202020, 0x20202020, 0x20202020, 0x20202020);
                due("end " + n, x.end(n), true);
                due("bytes", x.count(7), n);
                x.feed(0x21202020, 0, 0, 0, 0);
                due("what comes behind it", x.net(), -1 - n);
            }
            due("none of none", new LevelRings().end(0), true);
            LevelRings x = new LevelRings();
            x.feed(0x706f696e, 0x74206131, 0x3b202020, 0x20202020, 0x20202020);
            x.end(7);
            due("'point a' of 'point a1;'", x.net(), -1 - 7);
            x.feed(0x706f696e, 0x7420613b, 0x21202020, 0x20202020, 0x20202020);
            x.end(8);
            due("'point a;' of 'point a;!'", x.net(), 1);
        });
        book.says("false, if it has not so many,", () -> {
            due("one of none", new LevelRings().end(1), false);
            for (int n : new int[] {9, 20, 540, 541, MOST}) {
                due("end " + n, busy().end(n), false);
                untouched("end " + n, Due::busy, x -> x.end(n));
            }
            LevelRings x = busy();
            x.end(3);
            due("what went is gone", x.end(4), false);
        });
        book.says("or n is below 0.", () -> {
            for (int n : new int[] {-1, -8, LEAST}) {
                due("end " + n, busy().end(n), false);
                due("of none", new LevelRings().end(n), false);
                untouched("end " + n, Due::busy, x -> x.end(n));
            }
        });
    }

    private static void net(Book book) {
        book.open("Promise 4: net");
        book.says("The tape (empty then, even with a FAULT) is the NET now:", () -> {
            LevelRings x = busy();
            due("rows", x.net(), 1);
            due("bytes", x.count(7), 0);
            due("POINTS", x.count(0), 1);
            due("LINES", x.count(1), 0);
            due("an empty one", x.net(), 0);
            due("POINTS", x.count(0), 0);
            Fed.feed(x, "point a;!");
            due("a FAULT", x.net(), -9);
            due("bytes", x.count(7), 0);
            due("the tape begins anew", x.feed(0x20202020, 0x20202020, 0x20202020, 0x20202020, 0x20202020), 20);
            due("nothing of it is left", x.net(), 0);
            LevelRings y = of(SIX + lines(11));
            is("ahead", w -> y.height(1, w), 5, 1);
            Fed.net(y, PAIR);
            is("worked out anew", w -> y.height(1, w), 6, 1);
            due("SOUND ones", y.count(2), 2);
            due("PARTS", y.count(3), 1);
            alike("a NET behind another one", y, of(PAIR));
        });
        book.says("how many ROWS;", () -> {
            reads("", 0);
            reads(SIX + lines(11), 17);
            reads(TWO + lines(3), 5);
        });
        book.says("-1 less the place of a FAULT:", () -> {
            LevelRings x = new LevelRings();
            due("at 0", Fed.net(x, "!"), -1);
            due("at 1", Fed.net(x, " !"), -2);
            due("at 500", Fed.net(x, blanks(540)), -501);
        });
        book.says("it stays.", () -> {
            // The text has the FAULT that busy() tells of already, so nothing else may differ.
            LevelRings x = busy();
            Fed.net(x, "point a;point a;point b;");
            LevelRings y = busy();
            y.end(0);
            alike("a NET behind a FAULT", x, y);
            LevelRings z = new LevelRings();
            Fed.net(z, TWO + "!");
            due("one without POINTS", z.count(0), 0);
        });
    }

    private static void fault(Book book) {
        String[] texts = {"!", TWO + "line a b up 1 5;", "point a;point a;", SIX + "point"};
        int[] rows = {0, 2, 1, 6};
        book.open("Promise 5: fault");
        book.says("The kind of the FAULT of the latest net() (0),", () -> {
            LevelRings x = new LevelRings();
            for (int i = 0; i < 8; i++) {
                Fed.net(x, texts[i % 4]);
                due("kind", x.fault(0), i % 4 + 1);
                due("kind, asked again", x.fault(0), i % 4 + 1);
            }
        });
        book.says("its ROW (from 0; 1);", () -> {
            LevelRings x = new LevelRings();
            for (int i = 0; i < 8; i++) {
                Fed.net(x, texts[i % 4]);
                due("ROW", x.fault(1), rows[i % 4]);
            }
            Fed.net(x, SIX + lines(11) + "!");
            due("the last ROW there can be", x.fault(1), 17);
            Fed.net(x, "point a\n\n\n!");
            due("a ROW is no line of the text", x.fault(1), 0);
        });
        book.says("0, NONE without one", () -> {
            LevelRings x = of(TWO);
            due("kind", x.fault(0), 0);
            due("ROW", x.fault(1), NONE);
            for (String text : texts) {
                Fed.net(x, text);
                Fed.net(x, "");
                due("kind", x.fault(0), 0);
                due("ROW", x.fault(1), NONE);
            }
        });
        book.says("and ahead of any;", () -> {
            LevelRings x = new LevelRings();
            Fed.feed(x, "!");
            due("kind", x.fault(0), 0);
            due("ROW", x.fault(1), NONE);
        });
        book.says("NONE for another what.", () -> {
            for (int what : new int[] {-1, 2, 3, LEAST, MOST}) {
                due("ahead of any", new LevelRings().fault(what), NONE);
                due("with one", busy().fault(what), NONE);
            }
        });
    }
}
