/** Puts texts on the tape of a DraftHouse; for the tests alone. */
final class Tapes {
    private Tapes() {
    }

    /** The tape has just this text then, of 300 bytes at most: true. */
    static boolean put(DraftHouse x, String text) {
        x.end(0);
        for (int from = 0; from < text.length(); from += 20) {
            feed(x, text, from);
        }
        return x.end(text.length()) == text.length();
    }

    /** Twenty bytes of a text from a place on, and 0 for those that aren't there. */
    static int feed(DraftHouse x, String text, int from) {
        int[] words = new int[5];
        for (int i = 0; i < 20 && from + i < text.length(); i++) {
            words[i / 4] |= (text.charAt(from + i) & 255) << 24 - i % 4 * 8;
        }
        return x.feed(words[0], words[1], words[2], words[3], words[4]);
    }

    static int tell(DraftHouse x, String text) {
        put(x, text);
        return x.text();
    }
}
