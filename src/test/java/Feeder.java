import java.nio.charset.StandardCharsets;

/** Brings texts to an object by its tape. */
final class Feeder {
    private Feeder() {
    }

    /** Feeds the text alone onto the tape, which is emptied first. */
    static void lay(WrongEnd x, String text) {
        x.end(0);
        byte[] bytes = text.getBytes(StandardCharsets.ISO_8859_1);
        for (int at = 0; at < bytes.length; at += 20) {
            x.feed(four(bytes, at), four(bytes, at + 4), four(bytes, at + 8), four(bytes, at + 12), four(bytes, at + 16));
        }
        x.end(bytes.length);
    }

    static int text(WrongEnd x, String text) {
        lay(x, text);
        return x.text();
    }

    static int four(byte[] bytes, int at) {
        int number = 0;
        for (int i = at; i < at + 4; i++) {
            number = number << 8 | (i < bytes.length ? bytes[i] & 255 : 0);
        }
        return number;
    }
}
