/** All that an object has, as one text: what it answers, what can be undone, what is kept, the tape. */
final class Trace {
    private static final int MORE_THAN_ARE_KEPT = 9;

    private Trace() {
    }

    /** Uses the object up: it undoes, restores and reads the tape, for so alone these can be seen. */
    static String of(LevelRings x) {
        StringBuilder all = new StringBuilder("counts");
        for (int what = 0; what < 8; what++) {
            all.append(' ').append(x.count(what));
        }
        all.append(" fault ").append(x.fault(0)).append(' ').append(x.fault(1));
        told(x, all);
        sought(x, all);
        for (int i = 0; i < MORE_THAN_ARE_KEPT; i++) {
            int left = x.undo();
            all.append("\n  undo ").append(left);
            if (left != LevelRings.NONE) {
                told(x, all);
            }
        }
        for (int k = 0; k < 2; k++) {
            boolean kept = x.restore(k);
            all.append("\n  image ").append(kept);
            if (kept) {
                told(x, all);
            }
        }
        all.append("\n  tape ").append(x.count(7)).append(' ').append(x.net());
        all.append(' ').append(x.fault(0)).append(' ').append(x.fault(1));
        told(x, all);
        return all.toString();
    }

    /** The NET alone, which stays as it is. */
    static String now(LevelRings x) {
        StringBuilder all = new StringBuilder();
        told(x, all);
        sought(x, all);
        return all.toString();
    }

    private static void told(LevelRings x, StringBuilder all) {
        int points = x.count(0);
        int lines = x.count(1);
        for (int p = 0; p < points; p++) {
            all.append(" p").append(x.point(p, 1));
        }
        for (int l = 0; l < lines; l++) {
            all.append(" l");
            for (int what = 0; what < 5; what++) {
                all.append(x.line(l, what)).append(what < 4 ? "," : "");
            }
        }
    }

    private static void sought(LevelRings x, StringBuilder all) {
        int points = x.count(0);
        all.append(" sum ").append(x.sum(0)).append('/').append(x.sum(1)).append(" heights");
        for (int p = 0; p < points; p++) {
            all.append(' ').append(x.height(p, 0)).append('/').append(x.height(p, 1));
        }
    }
}
