import java.nio.charset.StandardCharsets;
import java.util.Arrays;

/** Puts texts onto the tape of an object, twenty bytes a call. */
final class Fed {
    private Fed() {
    }

    static void feed(LevelRings x, String text) {
        byte[] bytes = text.getBytes(StandardCharsets.ISO_8859_1);
        x.end(0);
        for (int from = 0; from < bytes.length; from += 20) {
            byte[] row = Arrays.copyOfRange(bytes, from, from + 20);
            x.feed(four(row, 0), four(row, 4), four(row, 8), four(row, 12), four(row, 16));
        }
        if (!x.end(bytes.length)) {
            throw new IllegalStateException("the tape did not take " + bytes.length + " bytes");
        }
    }

    static int net(LevelRings x, String text) {
        feed(x, text);
        return x.net();
    }

    private static int four(byte[] row, int at) {
        int answer = 0;
        for (int i = 0; i < 4; i++) {
            answer = answer << 8 | row[at + i] & 255;
        }
        return answer;
    }
}
