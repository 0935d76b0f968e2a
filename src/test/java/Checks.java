import java.nio.charset.StandardCharsets;

/** Counts what was checked and what was wrong, for tests that are plain main methods. */
final class Checks {
    private static int passed = 0;
    private static int failed = 0;

    private Checks() {
    }

    static void same(String what, long got, long want) {
        if (got == want) {
            passed++;
            return;
        }
        failed++;
        if (failed <= 40) {
            System.out.println(what + " answered " + got + ", due is " + want);
        }
    }

    static void same(String what, boolean got, boolean want) {
        same(what, got ? 1 : 0, want ? 1 : 0);
    }

    static void holds(String what, boolean so) {
        same(what, so ? 1 : 0, 1);
    }

    /** Brings a text to the tape; what the last feed answered. */
    static int feed(ScrapedSkin skin, String text) {
        byte[] bytes = text.getBytes(StandardCharsets.ISO_8859_1);
        int answer = skin.count(4);
        for (int from = 0; from < bytes.length; from += 20) {
            int[] five = new int[5];
            for (int i = 0; i < 20; i++) {
                int one = from + i < bytes.length ? bytes[from + i] & 255 : 0;
                five[i / 4] = five[i / 4] << 8 | one;
            }
            answer = skin.feed(five[0], five[1], five[2], five[3], five[4]);
        }
        return answer;
    }

    /** Makes the text a skin (0), a law (1) or a writing (2). */
    static int tell(ScrapedSkin skin, int sort, String text) {
        skin.end(0);
        feed(skin, text);
        return skin.text(sort);
    }

    static int faultOf(ScrapedSkin skin, int sort, String text) {
        skin.end(0);
        feed(skin, text);
        return skin.fault(sort);
    }

    static ScrapedSkin skin(String text, String... writings) {
        ScrapedSkin skin = new ScrapedSkin();
        tell(skin, 0, text);
        for (String writing : writings) {
            tell(skin, 2, writing);
        }
        return skin;
    }

    /** What a hand is, or -77 for the exception that the document asks for. */
    static int hand(ScrapedSkin skin, int hand, int what) {
        try {
            return skin.hand(hand, what);
        } catch (java.util.NoSuchElementException none) {
            return -77;
        }
    }

    static void end() {
        System.out.println(passed + " passed, " + failed + " failed");
        if (failed != 0) {
            System.exit(1);
        }
    }
}
