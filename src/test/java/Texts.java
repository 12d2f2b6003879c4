import java.nio.charset.StandardCharsets;

/** Brings texts to the tape of an office. */
final class Texts {
    private Texts() {
    }

    /** Feeds a text, with blanks behind it up to a whole feed: how many bytes the text has. */
    static int feed(PayScales office, String text) {
        byte[] bytes = text.getBytes(StandardCharsets.ISO_8859_1);
        for (int at = 0; at < bytes.length; at += 20) {
            office.feed(word(bytes, at), word(bytes, at + 4), word(bytes, at + 8), word(bytes, at + 12),
                word(bytes, at + 16));
        }
        return bytes.length;
    }

    static int agree(PayScales office, String text, int from) {
        return office.agree(feed(office, text), from);
    }

    /** A new office takes the text, with so many lines. */
    static void taken(Check check, String text, int lines) {
        PayScales office = new PayScales();
        check.due("agree of " + text, agree(office, text, 0), 0);
        check.due("fault(0) of " + text, office.fault(0), 0);
        check.due("fault(1) of " + text, office.fault(1), -1);
        check.due("lines of " + text, office.count(4), lines);
    }

    /** A new office finds the fault, and has no agreement then. */
    static void refused(Check check, String text, int fault, int place) {
        PayScales office = new PayScales();
        check.due("agree of " + text, agree(office, text, 0), -1);
        check.due("fault(0) of " + text, office.fault(0), fault);
        check.due("fault(1) of " + text, office.fault(1), place);
        check.due("agreements behind " + text, office.count(1), 0);
        check.due("lines behind " + text, office.count(4), 0);
    }

    /** So many lines of different keys, 52 at most: ends, since they are short. */
    static String lines(int count) {
        StringBuilder text = new StringBuilder();
        for (int i = 0; i < count; i++) {
            text.append(i < 26 ? "end test " : "end plus ").append((char) ('a' + i % 26)).append(';');
        }
        return text.toString();
    }

    private static int word(byte[] bytes, int at) {
        int word = 0;
        for (int i = at; i < at + 4; i++) {
            word = word << 8 | (i < bytes.length ? bytes[i] & 255 : 32);
        }
        return word;
    }
}
