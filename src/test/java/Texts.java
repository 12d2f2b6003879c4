import java.nio.charset.StandardCharsets;

/** Brings texts to the tape of an office. */
final class Texts {
    private Texts() {
    }

    /** Feeds a text, with blanks behind it up to a whole feed: how many bytes the text has. */
    static int feed(PayScales office, String text) {
        byte[] bytes = text.getBytes(StandardCharsets.ISO_8859_1);
        for (int at = 0; at < bytes.length; at += 20) {
            office.feed(word(bytes, at), word(bytes, at + 4), word(bytes, at + 8), word(bytes, at + 12),
                word(bytes, at + 16));
        }
        return bytes.length;
    }

    static int agree(PayScales office, String text, int from) {
        return office.agree(feed(office, text), from);
    }

    private static int word(byte[] bytes, int at) {
        int word = 0;
        for (int i = at; i < at + 4; i++) {
            word = word << 8 | (i < bytes.length ? bytes[i] & 255 : 32);
        }
        return word;
    }
}
