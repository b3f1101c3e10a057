/** Counts the answers that are not as due; a test ends with finish(). */
final class Due {
    private static int wrong = 0;
    private static int asked = 0;

    private Due() {
    }

    static void is(String call, long got, long want) {
        asked++;
        if (got != want) {
            wrong++;
            System.out.println(call + " answered " + got + ", due is " + want);
        }
    }

    static void is(String call, boolean got, boolean want) {
        is(call, got ? 1 : 0, want ? 1 : 0);
    }

    static int wrong() {
        return wrong;
    }

    static void finish() {
        System.out.println(asked + " answers, " + wrong + " not as due");
        if (wrong != 0 || asked == 0) {
            System.exit(1);
        }
    }

    /** Feeds a text's characters as bytes; false if they don't all come onto the empty tape. */
    static boolean tape(CoverFires x, String text) {
        return x.end(0) == 0 && tapeMore(x, text) && x.end(text.length()) == text.length();
    }

    /** Behind what the tape has: twenty bytes at a time, the last ones filled up with 0. */
    static boolean tapeMore(CoverFires x, String text) {
        int had = x.about(6);
        for (int at = 0; at < text.length(); at += 20) {
            if (x.feed(four(text, at), four(text, at + 4), four(text, at + 8), four(text, at + 12),
                    four(text, at + 16)) != had + at + 20) {
                return false;
            }
        }
        return true;
    }

    static int four(String text, int at) {
        int word = 0;
        for (int i = 0; i < 4; i++) {
            word = word << 8 | (at + i < text.length() ? text.charAt(at + i) & 255 : 0);
        }
        return word;
    }

    /** The number of the text, NONE if it has a fault. */
    static int read(CoverFires x, String text) {
        return tape(x, text) ? x.text() : -99;
    }
}
