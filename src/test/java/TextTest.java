import java.util.Random;

/** Promises 2 to 5, 8 and 10: the tape, and skins, laws and writings told as texts. */
public final class TextTest {
    public static void main(String[] args) {
        feedAndEnd();
        skinFaults();
        skinNumbers();
        lawFaults();
        lawDepth();
        lawChart();
        writingFaults();
        texts();
        Checks.end();
    }

    private static void fault(int sort, String text, int want) {
        Checks.same("fault(" + sort + ") of '" + text + "'", Checks.faultOf(new ScrapedSkin(), sort, text), want);
    }

    private static void feedAndEnd() {
        ScrapedSkin skin = new ScrapedSkin();
        Checks.same("nothing fed", skin.feed(0, 0, 0, 0, 0), 0);
        Checks.same("highest byte first", skin.feed(0x68003b00, 0, 0x00000068, 0, 0), 3);
        Checks.same("h;h is a skin", skin.fault(0), -1);
        Checks.same("end beyond", skin.end(4), false);
        Checks.same("end below", skin.end(-1), false);
        Checks.same("end at its length", skin.end(3), true);
        Checks.same("end within", skin.end(2), true);
        Checks.same("h; ends too early", skin.fault(0), 2);
        Checks.same("bytes", skin.count(4), 2);
        Checks.same("end 0", skin.end(0), true);
        for (int i = 1; i <= 12; i++) {
            Checks.same("twenty more", skin.feed(-1, -1, -1, -1, -1), 20 * i);
        }
        Checks.same("more than 240", skin.feed(0, 0, 0, 0, 1), -1);
        Checks.same("nothing more to 240", skin.feed(0, 0, 0, 0, 0), 240);
        skin.end(221);
        Checks.same("one too many", skin.feed(-1, -1, -1, -1, -1), -1);
        Checks.same("as it was", skin.count(4), 221);
        Checks.same("just 240", skin.feed(-1, -1, -1, -1, 0x00ffffff), 240);
        Checks.same("bytes of 255 are no text", skin.fault(2), 0);
    }

    private static void skinFaults() {
        fault(0, "", 0);
        fault(0, "   ", 3);
        fault(0, "h", -1);
        fault(0, " h ", -1);
        fault(0, "s", 1);
        fault(0, "s;", 2);
        fault(0, "s;h", -1);
        fault(0, "h;s", -1);
        fault(0, "h;s;h", -1);
        fault(0, "s;s", 2);
        fault(0, "h;s;s", 4);
        fault(0, "h;h;h;h", -1);
        fault(0, "h;h;h;h;h", 8);
        fault(0, "h;h;s;h;h", -1);
        fault(0, "s;h;h;h;h;h", 10);
        fault(0, "s;h;h;h;h;s", 10);
        fault(0, "s;h;h;h;h;", 10);
        fault(0, ";h", 0);
        fault(0, "h;;h", 2);
        fault(0, "h h", 2);
        fault(0, "x", 0);
        fault(0, "H", 0);
        fault(0, "sw", 2);
        fault(0, "sw;h", 2);
        fault(0, "swr3", 2);
        fault(0, "sw3r2l9k0;h", -1);
        fault(0, "sk0l9r2w3;h", -1);
        fault(0, "sw3w3;h", 3);
        fault(0, "si3;h", 1);
        fault(0, "hi3f2", -1);
        fault(0, "hf2i3", -1);
        fault(0, "hf2f2", 3);
        fault(0, "hk2", 1);
        fault(0, "hi3;hi3", -1);
        fault(0, "hi3x", 3);
        fault(0, "h\u00e9", 1);
    }

    private static void skinNumbers() {
        String[] items = {"sw 2 8", "sr 1 5", "sl 1 9", "sk 0 99", "hi 1 9", "hf 0 9"};
        for (String item : items) {
            String[] told = item.split(" ");
            for (int value = 0; value <= 99; value++) {
                boolean within = value >= Integer.parseInt(told[1]) && value <= Integer.parseInt(told[2]);
                String text = told[0] + value;
                fault(0, text + ";h", within ? -1 : text.length() - 1);
                fault(0, text, !within ? text.length() - 1 : text.charAt(0) == 'h' ? -1 : text.length());
                String wide = told[0] + " " + value / 10 + value % 10;
                fault(0, wide + ";h", within ? -1 : wide.length() - 1);
            }
            fault(0, told[0] + "100;h", 4);
            fault(0, told[0] + "999;h", 4);
            fault(0, told[0] + "0055;h", 4);
            fault(0, told[0] + ";h", 2);
            fault(0, told[0] + "5 0;h", 4);
        }
        fault(0, "sw1 0;h", 2);
        fault(0, "hi0 5", 2);
    }

    private static void lawFaults() {
        fault(1, "", 0);
        fault(1, " ", 1);
        fault(1, "y", 1);
        fault(1, "y:", 2);
        fault(1, "y:1", -1);
        fault(1, " y : 1 ", -1);
        fault(1, "x:1", 0);
        fault(1, "y1", 1);
        fault(1, "y:1;", 4);
        fault(1, "y:1;y:2", -1);
        fault(1, "y:1;;", 4);
        fault(1, "y:9999", -1);
        fault(1, "y:00001", 6);
        fault(1, "y:12345", 6);
        fault(1, "y:1 2", 4);
        fault(1, "y:s+d-f*i/r+y", -1);
        fault(1, "y:k", 2);
        fault(1, "y:-1", 2);
        fault(1, "y:s s", 4);
        fault(1, "y:s=1", 5);
        fault(1, "y:s=1?", 6);
        fault(1, "y:s=1?2", -1);
        fault(1, "y:s=1?2?3", 7);
        fault(1, "y:s=1?2=3", 7);
        fault(1, "y:s=1=2?3", 5);
        fault(1, "y:s?2", 3);
        fault(1, "y:s<1&d>2|f=3?4", -1);
        fault(1, "y:s<1&?4", 6);
        fault(1, "y:s&d=1?1", 3);
        fault(1, "y:s<1&d?4", 7);
        fault(1, "y:!s=1?2", -1);
        fault(1, "y:!s", 4);
        fault(1, "y:!s;", 4);
        fault(1, "y:!1?2", 4);
        fault(1, "y:(s=1)?2", -1);
        fault(1, "y:(s=1)", 7);
        fault(1, "y:(s=1)+1?2", 7);
        fault(1, "y:(s)=1?2", 4);
        fault(1, "y:(s+1", 6);
        fault(1, "y:[s]=1?2", -1);
        fault(1, "y:[s=1]?2", 4);
        fault(1, "y:[s)", 4);
        fault(1, "y:[]", 3);
        fault(1, "y:(", 3);
        fault(1, "y:()?1", 3);
        fault(1, "y:s+(d)", 4);
        fault(1, "y:s=(d)?1", 4);
        fault(1, "y:s*!d", 4);
    }

    private static void lawDepth() {
        fault(1, "y:[[[[[[1]]]]]]", -1);
        fault(1, "y:[[[[[[[1]]]]]]]", 8);
        fault(1, "y:((((((s=1))))))?2", -1);
        fault(1, "y:(((((((s=1)))))))?2", 8);
        fault(1, "y:!!!!!!s=1?2", -1);
        fault(1, "y:!!!!!!!s=1?2", 8);
        fault(1, "y:!(!([s]=[[1]]))?[[[[[[2]]]]]]", -1);
        fault(1, "y:!(!([[s]]=[[[1]]]))?2", 14);
        fault(1, "y:!(!([[s]]=[1+[1]]))?2", -1);
        fault(1, "y:!!!!!!s=1&!!!!!!s=2|!!!!!!s=3?4", -1);
        fault(1, "y:!!!!!(s=1)&!!!!!!s=2|s=3?[4]", -1);
        fault(1, "y:!!!!!![s]=1?2", 8);
        fault(1, "y:s=1?[[[[[[[2]", 12);
    }

    /** Drawn laws, spoilt and deep ones too, against a chart over the grammar. */
    private static void lawChart() {
        Random random = new Random(7);
        for (int i = 0; i < 6000; i++) {
            StringBuilder text = new StringBuilder();
            clause(random, text, 7);
            if (random.nextInt(3) == 0) {
                text.append(';');
                clause(random, text, 3);
            }
            for (int k = random.nextInt(3); k > 0 && text.length() > 0; k--) {
                text.setCharAt(random.nextInt(text.length()), " ;:/?!([)]+-*=<>&|0459ysdfirx".charAt(random.nextInt(29)));
            }
            text.setLength(Math.min(text.length(), random.nextInt(4) == 0 ? random.nextInt(60) : 240));
            fault(1, text.toString(), LawModel.fault(text.toString()));
        }
    }

    private static void clause(Random random, StringBuilder text, int deep) {
        text.append("y:");
        if (random.nextInt(3) != 0) {
            condition(random, text, deep);
            text.append('?');
        }
        sum(random, text, deep);
    }

    private static void condition(Random random, StringBuilder text, int deep) {
        switch (deep == 0 ? 9 : random.nextInt(5)) {
            case 0, 1 -> {
                text.append('!');
                condition(random, text, deep - 1);
            }
            case 2 -> {
                text.append('(');
                condition(random, text, deep - 1);
                text.append(random.nextBoolean() ? "|" : "&");
                condition(random, text, deep - 1);
                text.append(')');
            }
            default -> {
                sum(random, text, deep - 1);
                text.append("=<>".charAt(random.nextInt(3)));
                sum(random, text, deep - 1);
            }
        }
    }

    private static void sum(Random random, StringBuilder text, int deep) {
        if (deep > 0 && random.nextInt(4) != 0) {
            text.append('[');
            sum(random, text, deep - 1);
            text.append(']');
        } else {
            text.append(random.nextBoolean() ? "" + random.nextInt(20000) : "s");
        }
        if (random.nextInt(4) == 0) {
            text.append("+-*/".charAt(random.nextInt(4))).append(random.nextInt(10));
        }
    }

    private static void writingFaults() {
        fault(2, "", 0);
        fault(2, "  ", 2);
        fault(2, "a", -1);
        fault(2, "z.", -1);
        fault(2, "`", 0);
        fault(2, "{", 0);
        fault(2, "a-", 1);
        fault(2, ".", 1);
        fault(2, "........", 8);
        fault(2, ".........", 8);
        fault(2, "......../........", 17);
        fault(2, "......../.......a", -1);
        fault(2, "a/", 2);
        fault(2, "/a", 0);
        fault(2, "a//b", 2);
        fault(2, "a / b", -1);
        fault(2, "a/b/c/d", -1);
        fault(2, "a/b/c/d/", 7);
        fault(2, "a/b/c/d/e", 7);
        fault(2, "abcdefghi", 8);
        fault(2, "abcdefgh/ijklmnop", -1);
        fault(2, "abcdefgh/ijklmnop/", 18);
        fault(2, "abcdefgh/ijklmnop/q", 18);
        fault(2, "abcdef/ghijkl/mnop/q", 19);
        fault(2, "abcd/efgh/ijkl/mnop", -1);
        fault(2, "abcd/efgh/ijkl/mnopq", 19);
        fault(2, "abcd/efgh/ijkl/mnop/", 19);
        fault(2, "a/b/c/d1", 7);
    }

    private static void texts() {
        ScrapedSkin skin = new ScrapedSkin();
        Checks.same("no such sort", skin.fault(3), -2);
        Checks.same("no such sort below", skin.fault(-1), -2);
        Checks.same("a fault", Checks.tell(skin, 0, "s"), -1);
        Checks.same("the tape stays", skin.count(4), 1);
        Checks.same("no such sort", skin.text(3), -1);
        Checks.same("usual skin", Checks.tell(skin, 0, "h"), 24);
        Checks.same("the tape is empty", skin.count(4), 0);
        for (int i = 0; i < 4; i++) {
            Checks.same("a law", Checks.tell(skin, 1, "y:" + i), i);
        }
        Checks.same("a fifth law", Checks.tell(skin, 1, "y:4"), -1);
        Checks.same("its tape stays", skin.count(4), 3);
        for (int i = 0; i < 6; i++) {
            Checks.same("a writing", Checks.tell(skin, 2, "a/." + (char) ('a' + i)), i);
        }
        Checks.same("a seventh", Checks.tell(skin, 2, "a"), -1);
        Checks.same("sign", skin.sign(5, 1, 1), 5);
        Checks.same("free sign", skin.sign(5, 1, 0), 26);
        int[][] wrong = {{6, 0, 0}, {-1, 0, 0}, {0, 2, 0}, {0, -1, 0}, {0, 0, 1}, {0, 0, -1}, {0, 1, 2}};
        for (int[] one : wrong) {
            Checks.same("no such sign", skin.sign(one[0], one[1], one[2]), -1);
        }
        Checks.same("no such law", skin.law(4), false);
        Checks.same("no such law below", skin.law(-2), false);
        Checks.same("none holds", skin.count(5), -1);
        Checks.same("law 3", skin.law(3), true);
        Checks.same("law 3 again", skin.law(3), true);
        Checks.same("holds", skin.count(5), 3);
        Checks.same("none", skin.law(-1), true);
        Checks.same("none holds again", skin.count(5), -1);
    }
}
