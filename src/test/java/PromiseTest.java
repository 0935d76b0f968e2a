/**
 * A method for each promise, in the document's order: ordinary inputs, its edges, wrong inputs. Most questions are
 * asked of one skin, told in {@link #parchment}, for which the answers were worked out by hand from the document.
 */
public final class PromiseTest {
    private static final int NONE = ScrapedSkin.NONE;
    private static final int HIDDEN = ScrapedSkin.HIDDEN;
    private static final int NO_SUCH_ELEMENT = -77;

    public static void main(String[] args) {
        promise1();
        promise2();
        promise3();
        promise4();
        promise5();
        promise6();
        promise7();
        promise8();
        promise9();
        promise10();
        promise11();
        promise12();
        promise13();
        promise14();
        promise15();
        promise16();
        promise17();
        promise18();
        promise19();
        promise20();
        promise21();
        promise22();
        promise23();
        promise24();
        promise25();
        promise26();
        promise27();
        promise28();
        promise29();
        promise30();
        promise31();
        promise32();
        promise33();
        promise34();
        promise35();
        promise36();
        promise37();
        promise38();
        promise39();
        promise40();
        promise41();
        Checks.end();
    }

    private static void same(String call, long got, long want) {
        Checks.same(call, got, want);
    }

    /**
     * Five wide, three rows, legible from 4 on. Its layers, from below, with their hands and strength:
     * <pre>
     * cell 0: c 0 9, a 2 3    cell 1: a 0 9, b 2 3    cell 2: b 0 9    cell 5: a 0 9, a 1 7
     * cell 6: b 0 9, b 1 7    cell 8: c 1 7
     * </pre>
     */
    private static ScrapedSkin parchment() {
        ScrapedSkin x = Checks.skin("sw5r3l4k30;hi9f2;hi7f1;hi3f0", "cab/ab", "ab.c", "b/a", "abca");
        same("by hand 0, to the right", x.write(0, 0, 0, 0), 5);
        same("by hand 1, to the right", x.write(1, 1, 5, 0), 8);
        same("by hand 2, down", x.write(2, 2, 1, 1), 10);
        return x;
    }

    private static ScrapedSkin noSkin() {
        ScrapedSkin x = new ScrapedSkin();
        Checks.tell(x, 2, "ab");
        return x;
    }

    /** No SKIN. */
    private static void promise1() {
        ScrapedSkin x = new ScrapedSkin();
        for (int what = 0; what <= 10; what++) {
            same("count(" + what + ") of a new object", x.count(what), what == 5 ? NONE : what == 7 ? 4 : 0);
        }
        for (int what = 0; what <= 3; what++) {
            same("rule without a skin", x.rule(what), NONE);
        }
        ScrapedSkin other = parchment();
        same("one object knows nothing of another", x.count(0), 0);
        same("nor that one of it", other.count(0), 15);
    }

    /** Twenty bytes more come to the TAPE: how many it has. NONE: more than 240. */
    private static void promise2() {
        ScrapedSkin x = new ScrapedSkin();
        same("ab", x.feed(0x61620000, 0, 0, 0, 0), 2);
        same("c, zeros left out", x.feed(0, 0x00006300, 0, 0, 0), 3);
        same("nothing", x.feed(0, 0, 0, 0, 0), 3);
        same("a writing", x.text(2), 0);
        for (int i = 0; i < 3; i++) {
            same("in the order of the bytes", x.sign(0, 0, i), i);
        }
        for (int i = 1; i <= 12; i++) {
            same("twenty more", x.feed(-1, 0x20202020, Integer.MIN_VALUE | 0x00010101, 0x7f7f7f7f, -1), 20 * i);
        }
        same("241", x.feed(0, 0, 0, 0, 1), NONE);
        same("still 240", x.count(4), 240);
    }

    /** The TAPE has its first n bytes alone. False: n. */
    private static void promise3() {
        ScrapedSkin x = new ScrapedSkin();
        Checks.feed(x, "abcd");
        same("five of four", x.end(5) ? 1 : 0, 0);
        same("less than none", x.end(-1) ? 1 : 0, 0);
        same("all four are left", x.count(4), 4);
        same("the first two", x.end(2) ? 1 : 0, 1);
        same("are a writing", x.text(2), 0);
        same("of two", x.sign(0, 0, 1), 1);
        same("signs", x.sign(0, 0, 2), NONE);
    }

    /** The FAULT of the TAPE as a SKIN, a LAW, a WRITING. NONE: none. -2: no such sort. */
    private static void promise4() {
        faults(0, "sw8r5l9k99;hi9f9", NONE, "h", NONE, "", 0, "s", 1, "hh", 1, "h;", 2, "sw9", 2, "sw10", 3,
                "sw100", 4, "hii1", 2, "hi1i", 3, "h;s;h;h;h;h", 10, "s;s", 2, " h i 1 f 0 ", NONE, "hi 1 2", 5);
        faults(1, "y:1", NONE, "y", 1, "y:", 2, "y:1;", 4, "y:s=1?2", NONE, "y:s=1", 5, "y:s=1?", 6, "y:1=", 4,
                "y:12345", 6, "y:!!!!!!s=1?1", NONE, "y:!!!!!!!s=1?1", 8, "y:(s)=1?1", 4, "y:1?1", 3, "x", 0,
                "y : [ s + d ] * 2 > f | ! r < y & i = 0 ? 9999", NONE);
        faults(2, "abcdefgh/ijklmnop", NONE, "abcdefghi", 8, "abcdefgh/ijklmnop/q", 18, "a/b/c/d", NONE,
                "a/b/c/d/e", 7, "...", 3, ".a", NONE, "/a", 0, "a//b", 2, "a/", 2, "aB", 1, " a . / b ", NONE);
        ScrapedSkin x = new ScrapedSkin();
        same("fault(3)", x.fault(3), -2);
        same("fault(-1)", x.fault(-1), -2);
    }

    private static void faults(int sort, Object... textsAndFaults) {
        for (int i = 0; i < textsAndFaults.length; i += 2) {
            String text = (String) textsAndFaults[i];
            same("fault(" + sort + ") of " + text, Checks.faultOf(new ScrapedSkin(), sort, text),
                    (Integer) textsAndFaults[i + 1]);
        }
    }

    /** The TAPE is the SKIN, a LAW, a WRITING. NONE: a FAULT, no such sort, there are four LAWS, six WRITINGS. */
    private static void promise5() {
        ScrapedSkin x = new ScrapedSkin();
        same("24 cells, if nothing is told", Checks.tell(x, 0, "h"), 24);
        same("the tape is empty then", x.count(4), 0);
        for (int law = 0; law < 4; law++) {
            same("its number", Checks.tell(x, 1, "y:" + law), law);
        }
        same("a fifth law", Checks.tell(x, 1, "y:4"), NONE);
        same("stays on the tape", x.count(4), 3);
        for (int writing = 0; writing < 6; writing++) {
            same("its number", Checks.tell(x, 2, "a"), writing);
        }
        same("a seventh writing", Checks.tell(x, 2, "a"), NONE);
        same("no such sort", x.text(3), NONE);
        same("a fault", Checks.tell(x, 0, "s"), NONE);
        same("the skin is as it was", x.count(0), 24);
        x.law(2);
        x.scribes(7);
        x.noted(0, 0, true);
        x.write(0, 0, 0, 0);
        x.ages(1);
        x.ages(0);
        x.image();
        same("another skin", Checks.tell(x, 0, "sw2r1k7;h;h"), 2);
        int[] counts = {2, 2, 4, 6, 0, 2, 0, 7, 0, 0, 0};
        for (int what = 0; what < counts.length; what++) {
            same("count(" + what + ") of another skin", x.count(what), counts[what]);
        }
        same("blank", x.most(0), 0);
        same("its coins", x.rule(3), 7);
        same("no image of it", x.back(), NONE);
        same("status stays", x.status(1), 1);
    }

    /** 0 how WIDE, 1 ROWS, 2 LEGIBLE, 3 COINS now. NONE: no SKIN, no such what. */
    private static void promise6() {
        ScrapedSkin x = parchment();
        same("wide", x.rule(0), 5);
        same("rows", x.rule(1), 3);
        same("legible", x.rule(2), 4);
        same("coins: five lines were written", x.rule(3), 25);
        same("no such what", x.rule(4), NONE);
        same("no such what", x.rule(-1), NONE);
        int[] untold = {6, 4, 3, 20};
        for (int what = 0; what < 4; what++) {
            same("told by nothing", Checks.skin("h").rule(what), untold[what]);
            same("no skin", noSkin().rule(what), NONE);
        }
    }

    /** Of a HAND: 0 INK, 1 how FAST it fades, 2 how many LAYERS it has, 3 their STRENGTH together, as now. */
    private static void promise7() {
        ScrapedSkin x = parchment();
        int[][] hands = {{9, 2, 5, 45}, {7, 1, 3, 21}, {3, 0, 2, 6}};
        for (int hand = 0; hand < 3; hand++) {
            for (int what = 0; what < 4; what++) {
                same("hand(" + hand + ", " + what + ")", Checks.hand(x, hand, what), hands[hand][what]);
            }
        }
        x.ages(1);
        same("faded by two each", Checks.hand(x, 0, 3), 35);
        same("ink stays what it was", Checks.hand(x, 0, 0), 9);
        same("no such hand", Checks.hand(x, 3, 0), NO_SUCH_ELEMENT);
        same("no such hand", Checks.hand(x, -1, 0), NO_SUCH_ELEMENT);
        same("no such what", Checks.hand(x, 0, 4), NO_SUCH_ELEMENT);
        same("no such what", Checks.hand(x, 0, -1), NO_SUCH_ELEMENT);
        same("no skin", Checks.hand(noSkin(), 0, 0), NO_SUCH_ELEMENT);
    }

    /** The SIGN of a WRITING in a LINE, i-th in it (26: left free). NONE: no such ones. */
    private static void promise8() {
        ScrapedSkin x = parchment();
        int[][] told = {{0, 0, 0, 2}, {0, 0, 2, 1}, {0, 0, 3, NONE}, {0, 1, 0, 0}, {0, 1, 2, NONE}, {0, 2, 0, NONE},
            {1, 0, 2, 26}, {1, 0, 3, 2}, {1, 0, 4, NONE}, {2, 1, 0, 0}, {4, 0, 0, NONE}, {-1, 0, 0, NONE},
            {0, -1, 0, NONE}, {0, 0, -1, NONE}};
        for (int[] one : told) {
            same("sign(" + one[0] + ", " + one[1] + ", " + one[2] + ")", x.sign(one[0], one[1], one[2]), one[3]);
        }
        same("a writing needs no skin", noSkin().sign(0, 0, 1), 1);
    }

    /** Of the i-th LAYER from below in a CELL: 0 its letter, 1 its HAND, 2 STRENGTH. NONE: no such ones. */
    private static void promise9() {
        ScrapedSkin x = parchment();
        int[][] told = {{0, 0, 2, 0, 9}, {0, 1, 0, 2, 3}, {6, 0, 1, 0, 9}, {6, 1, 1, 1, 7}, {8, 0, 2, 1, 7},
            {8, 1, NONE, NONE, NONE}, {7, 0, NONE, NONE, NONE}, {15, 0, NONE, NONE, NONE},
            {-1, 0, NONE, NONE, NONE}, {0, -1, NONE, NONE, NONE}, {0, 6, NONE, NONE, NONE}};
        for (int[] one : told) {
            for (int what = 0; what < 3; what++) {
                same("layer(" + one[0] + ", " + one[1] + ", " + what + ")", x.layer(one[0], one[1], what),
                        one[2 + what]);
            }
        }
        same("no such what", x.layer(0, 0, 3), NONE);
        same("no such what", x.layer(0, 0, -1), NONE);
        same("no skin", noSkin().layer(0, 0, 0), NONE);
    }

    /** The LAW that holds (NONE: none). False: no such one. */
    private static void promise10() {
        ScrapedSkin x = parchment();
        same("no law is told", x.law(0) ? 1 : 0, 0);
        Checks.tell(x, 1, "y:r+d");
        same("none holds yet", x.count(5), NONE);
        same("the first", x.law(0) ? 1 : 0, 1);
        same("again", x.law(0) ? 1 : 0, 1);
        same("no second", x.law(1) ? 1 : 0, 0);
        same("nor one below none", x.law(-2) ? 1 : 0, 0);
        same("it holds", x.count(5), 0);
        x.ages(1);
        same("row 0, one over it", x.layer(0, 0, 2), 8);
        same("row 0, none over it", x.layer(0, 1, 2), 3);
        same("row 1, one over it", x.layer(5, 0, 2), 7);
        same("row 1, none over it", x.layer(5, 1, 2), 6);
        same("none", x.law(NONE) ? 1 : 0, 1);
        x.ages(1);
        same("as fast as its hand's ink", x.layer(0, 0, 2), 6);
        same("and that of hand 1", x.layer(5, 1, 2), 5);
    }

    /** SCRIBES (0 .. 9). False: out of bounds, it is so. */
    private static void promise11() {
        ScrapedSkin x = new ScrapedSkin();
        int[][] calls = {{4, 0}, {9, 1}, {9, 0}, {10, 0}, {-1, 0}, {0, 1}, {0, 0}, {4, 1}};
        int scribes = 4;
        for (int[] call : calls) {
            same("scribes(" + call[0] + ")", x.scribes(call[0]) ? 1 : 0, call[1]);
            scribes = call[1] == 1 ? call[0] : scribes;
            same("scribes then", x.count(7), scribes);
        }
    }

    /** WRITTEN: how many LAYERS there are then. NONE: STATUS 0, 1 or 3. */
    private static void promise12() {
        ScrapedSkin x = Checks.skin("sw3r2k12;hi5", "ab/c", "a");
        same("to the right", x.write(0, 0, 0, 0), 3);
        same("down", x.write(0, 0, 1, 1), 6);
        same("to the left", x.write(0, 0, 5, 2), 9);
        same("up", x.write(0, 0, 4, 3), 12);
        // a at 0, b at 1, c at 3; a at 1, b at 4, c at 0; a at 5, b at 4, c at 2; a at 4, b at 1, c at 5.
        int[][] cells = {{0, 2}, {1, 0, 1}, {2}, {2}, {1, 1, 0}, {0, 2}};
        for (int cell = 0; cell < 6; cell++) {
            for (int i = 0; i < cells[cell].length; i++) {
                same("letter " + i + " of cell " + cell, x.layer(cell, i, 0), cells[cell][i]);
            }
            same("no more in cell " + cell, x.layer(cell, cells[cell].length, 0), NONE);
        }
        same("a coin for each line", x.rule(3), 4);
        refused("no such writing", x, x.write(2, 0, 0, 0), 0, 1);
        refused("no such hand", x, x.write(0, 1, 99, 9), 0, 2);
        refused("no such cell", x, x.write(0, 0, 6, 0), 1, 1);
        refused("no such way", x, x.write(0, 0, 0, 4), 1, 2);
        refused("it does not do there", x, x.write(0, 0, 2, 0), 1, 3);
        for (int i = 3; i < 6; i++) {
            x.write(1, 0, 1, 0);
        }
        refused("six layers", x, x.write(1, 0, 1, 0), 3, 1);
        same("a coin is left", x.rule(3), 1);
        refused("too few coins", x, x.write(0, 0, 2, 1), 3, 2);
        same("the last coin", x.write(1, 0, 0, 0), 16);
        refused("no coin", x, x.write(1, 0, 0, 0), 3, 3);
        ScrapedSkin none = noSkin();
        refused("no skin", none, none.write(0, 0, 0, 0), 0, 1);
    }

    private static void refused(String call, ScrapedSkin x, int answer, int kind, int times) {
        same(call, answer, NONE);
        same(call + ": status " + kind, x.status(kind), times);
    }

    /** SCRAPED: how many LAYERS are gone by that. NONE: STATUS 0 to 3. */
    private static void promise13() {
        ScrapedSkin x = parchment();
        same("three from above: a and b of hand 2 are gone", x.scrape(0, 3), 2);
        same("what was taken from them was not taken from c", x.layer(0, 0, 2), 9);
        same("where nothing lay over it", x.layer(2, 0, 2), 6);
        same("eight: cell 8 and what lies above in 5 and 6", x.scrape(1, 8), 3);
        same("one from the next layer", x.layer(5, 0, 2), 8);
        same("a coin each", x.rule(3), 23);
        refused("no such row", x, x.scrape(3, 1), 1, 1);
        refused("by nothing", x, x.scrape(0, 0), 1, 2);
        refused("by ten", x, x.scrape(0, 10), 1, 3);
        refused("no layer in it", x, x.scrape(2, 1), 2, 1);
        ScrapedSkin poor = Checks.skin("sk1;h", "a");
        poor.write(0, 0, 0, 0);
        refused("no coin", poor, poor.scrape(0, 1), 3, 1);
        ScrapedSkin none = noSkin();
        refused("no skin", none, none.scrape(0, 1), 0, 1);
    }

    /** YEARS (1 .. 30): the YEAR. NONE: STATUS 0, 1 or 4. */
    private static void promise14() {
        ScrapedSkin x = parchment();
        same("two years", x.ages(2), 2);
        int[][] left = {{0, 0, 5}, {0, 1, 3}, {5, 1, 5}};
        for (int[] one : left) {
            same("strength in cell " + one[0], x.layer(one[0], one[1], 2), one[2]);
        }
        same("three more", x.ages(3), 5);
        same("all of hand 0 is gone", Checks.hand(x, 0, 2), 0);
        same("what lay over it is the lowest now", x.layer(5, 0, 2), 2);
        same("hand 2 does not fade", Checks.hand(x, 2, 3), 6);
        refused("by nothing", x, x.ages(0), 1, 1);
        refused("by 31", x, x.ages(31), 1, 2);
        for (int i = 0; i < 33; i++) {
            x.ages(30);
        }
        same("up to the last", x.ages(4), 999);
        refused("beyond it", x, x.ages(1), 4, 1);
        ScrapedSkin none = noSkin();
        refused("no skin", none, none.ages(31), 0, 1);
    }

    /** COINS are given: COINS then. NONE: STATUS 0 or 1. */
    private static void promise15() {
        ScrapedSkin x = parchment();
        same("one", x.give(1), 26);
        same("fifty", x.give(50), 76);
        refused("none", x, x.give(0), 1, 1);
        refused("51", x, x.give(51), 1, 2);
        for (int i = 0; i < 18; i++) {
            x.give(50);
        }
        refused("above 999", x, x.give(24), 1, 3);
        same("999", x.give(23), 999);
        ScrapedSkin none = noSkin();
        refused("no skin", none, none.give(0), 0, 1);
    }

    /** YEARS by a seed: the YEAR. NONE: no SKIN, out of bounds, beyond 999. No STATUS. */
    private static void promise16() {
        for (long seed : new long[] {0, 1, -1, 1234567890123456789L}) {
            ScrapedSkin x = Checks.skin("sw2r1k0;hi9f0", "a");
            x.scribes(9);
            same("three years", x.years(3, seed), 3);
            int[] heights = heightsByDraws(3, seed);
            same("layers in cell 0, seed " + seed, height(x, 0), heights[0]);
            same("layers in cell 1, seed " + seed, height(x, 1), heights[1]);
            same("three acts", x.count(10), 3);
        }
        ScrapedSkin x = parchment();
        same("none", x.years(0, 1), NONE);
        same("31", x.years(31, 1), NONE);
        same("no status", x.status(1), 0);
        for (int i = 0; i < 33; i++) {
            x.years(30, i);
        }
        same("beyond the last year", x.years(10, 1), NONE);
        same("the last year", x.years(9, 1), 999);
        same("no status", x.status(4), 0);
        same("no skin", noSkin().years(1, 1), NONE);
    }

    /** One row of two cells, one hand whose ink never fades, one writing of one letter; letters of strength 9. */
    private static int[] heightsByDraws(int years, long seed) {
        long[] x = {seed};
        int[][] strengths = new int[2][6];
        int[] heights = new int[2];
        for (int year = 0; year < years; year++) {
            if (draw(x, 10) < 9) {
                draw(x, 1);
                draw(x, 1);
                int cell = draw(x, 2);
                draw(x, 4);
                strengths[cell][heights[cell]++] = 9;
            }
            if (draw(x, 10) < 3) {
                draw(x, 1);
                for (int cell = 0; cell < 2; cell++) {
                    int top = heights[cell] - 1;
                    if (top >= 0) {
                        strengths[cell][top] -= 2;
                    }
                }
            }
        }
        return heights;
    }

    private static int draw(long[] x, int j) {
        x[0] = x[0] * 6364136223846793005L + 1442695040888963407L;
        return (int) ((x[0] >>> 33) % j);
    }

    private static int height(ScrapedSkin x, int cell) {
        int height = 0;
        while (height < 6 && x.layer(cell, height, 0) != NONE) {
            height++;
        }
        return height;
    }

    /** STATUS. NONE: no such what. */
    private static void promise17() {
        ScrapedSkin x = parchment();
        x.write(9, 0, 0, 0);
        x.write(0, 0, 4, 0);
        x.scrape(2, 1);
        x.scrape(2, 1);
        for (int i = 0; i < 33; i++) {
            x.ages(30);
        }
        x.ages(10);
        int[] want = {1, 1, 2, 0, 1};
        for (int what = 0; what < 5; what++) {
            same("status(" + what + ")", x.status(what), want[what]);
        }
        x.undo();
        same("not undone", x.status(4), 1);
        same("no such what", x.status(5), NONE);
        same("no such what", x.status(-1), NONE);
    }

    /** The latest ACT is UNDONE: how many still can be. NONE: none. */
    private static void promise18() {
        ScrapedSkin x = parchment();
        x.scrape(0, 9);
        x.ages(2);
        x.give(5);
        same("seven acts", x.count(10), 7);
        same("the coins", x.undo(), 6);
        same("are taken back", x.rule(3), 24);
        same("the second year", x.undo(), 5);
        same("the year", x.count(6), 1);
        same("the first year", x.undo(), 4);
        same("the scraping", x.undo(), 3);
        same("its coin is back", x.rule(3), 25);
        same("its layers are back", x.layer(0, 1, 2), 3);
        same("the third writing", x.undo(), 2);
        same("is gone", x.most(0), 8);
        x.undo();
        same("the first writing", x.undo(), 0);
        same("is gone", x.most(6), 15);
        same("nothing is left", x.undo(), NONE);
        x.ages(30);
        x.ages(30);
        same("the latest forty", x.count(10), 40);
        for (int i = 39; i >= 0; i--) {
            same("one by one", x.undo(), i);
        }
        same("no more", x.undo(), NONE);
        same("twenty years stay", x.count(6), 20);
        same("and their log", x.count(9), 20);
    }

    /** LOG, the latest, the one ahead of it ..: 0 LAYERS gone, 1 STRENGTH, 2 SHOWN. NONE: no such ones. */
    private static void promise19() {
        ScrapedSkin x = parchment();
        same("nothing yet", x.log(0, 0), NONE);
        x.ages(5);
        // 72 at first; hand 0 loses 2 in each of its five layers, hand 1 one in each of its three.
        int[] strength = {59, 46, 33, 20, 12};
        // Cells 2, 5, 6 and 8; hand 0 is below 4 behind the third year, hand 1 behind the fourth.
        int[] shown = {4, 4, 3, 0, 0};
        for (int year = 0; year < 5; year++) {
            same("gone in year " + year, x.log(4 - year, 0), year == 4 ? 5 : 0);
            same("strength behind year " + year, x.log(4 - year, 1), strength[year]);
            same("shown behind year " + year, x.log(4 - year, 2), shown[year]);
        }
        same("none ahead of the first", x.log(5, 0), NONE);
        same("no such one", x.log(-1, 0), NONE);
        same("no such what", x.log(0, 3), NONE);
        same("no such what", x.log(0, -1), NONE);
        x.ages(30);
        x.ages(26);
        same("the latest sixty", x.log(59, 1), 46);
        same("no more", x.log(60, 1), NONE);
        x.undo();
        same("undone, too", x.log(59, 1), 59);
        same("no skin", noSkin().log(0, 0), NONE);
    }

    /** SHOWS (26: nothing). NONE: no such CELL. */
    private static void promise20() {
        ScrapedSkin x = parchment();
        int[] want = {26, 26, 1, 26, 26, 0, 1, 26, 2, 26, 26, 26, 26, 26, 26};
        for (int cell = 0; cell < 15; cell++) {
            same("shows(" + cell + ")", x.shows(cell), want[cell]);
        }
        x.scrape(0, 3);
        same("what lay over it is gone", x.shows(0), 2);
        same("no such cell", x.shows(15), NONE);
        same("no such cell", x.shows(-1), NONE);
        same("no skin", noSkin().shows(0), NONE);
    }

    /** LAMP (26: nothing). NONE: no such CELL. */
    private static void promise21() {
        ScrapedSkin x = parchment();
        int[] want = {2, 0, 1, 26, 26, 0, 1, 26, 2, 26, 26, 26, 26, 26, 26};
        for (int cell = 0; cell < 15; cell++) {
            same("lamp(" + cell + ")", x.lamp(cell), want[cell]);
        }
        x.write(3, 0, 0, 0);
        same("the lowest legible one still", x.lamp(0), 2);
        x.ages(3);
        same("the lowest legible one of hand 1", x.lamp(5), 0);
        x.ages(1);
        same("none is legible", x.lamp(5), 26);
        same("no such cell", x.lamp(15), NONE);
        same("no such cell", x.lamp(-1), NONE);
        same("no skin", noSkin().lamp(0), NONE);
    }

    /** How many of its letters AGREE (0), are GONE (1), AGAINST it (2) at a place. */
    private static void promise22() {
        ScrapedSkin x = parchment();
        int[][] told = {{0, 0, 5, 0, 0}, {1, 20, 3, 0, 0}, {2, 5, 0, 0, 2}, {2, 9, 2, 0, 0}, {3, 20, 2, 1, 1},
            {3, 0, 0, 1, 3}, {3, 40, 0, 4, 0}, {0, 1, NONE, NONE, NONE}, {0, 60, NONE, NONE, NONE},
            {0, -1, NONE, NONE, NONE}, {4, 0, NONE, NONE, NONE}, {-1, 0, NONE, NONE, NONE}};
        for (int[] one : told) {
            for (int what = 0; what < 3; what++) {
                same("agrees(" + one[0] + ", " + one[1] + ", " + what + ")", x.agrees(one[0], one[1], what),
                        one[2 + what]);
            }
        }
        same("no such what", x.agrees(0, 0, 3), NONE);
        same("no such what", x.agrees(0, 0, -1), NONE);
        same("no skin", noSkin().agrees(0, 0, 0), NONE);
    }

    /** MAY: how many places (i NONE), the i-th. NONE: no such one, no such WRITING, no SKIN. */
    private static void promise23() {
        ScrapedSkin x = parchment();
        int[] places = {8, 9, 11, 24, 25, 26, 27, 42};
        same("how many", x.may(2, NONE), places.length);
        for (int i = 0; i < places.length; i++) {
            same("may(2, " + i + ")", x.may(2, i), places[i]);
        }
        same("no such one", x.may(2, places.length), NONE);
        same("no such one", x.may(2, -2), NONE);
        same("no such writing", x.may(4, NONE), NONE);
        same("no such writing", x.may(-1, NONE), NONE);
        same("nowhere on a blank skin", Checks.skin("h", "a").may(0, NONE), 0);
        same("no skin", noSkin().may(0, NONE), NONE);
    }

    /** BEST. NONE: nowhere, no such WRITING, no SKIN. */
    private static void promise24() {
        ScrapedSkin x = parchment();
        same("all five agree", x.best(0), 0);
        same("all three agree", x.best(1), 20);
        same("both agree at 9, 25 and 26", x.best(2), 9);
        same("no such writing", x.best(4), NONE);
        same("no such writing", x.best(-1), NONE);
        same("nowhere", Checks.skin("h", "a").best(0), NONE);
        same("no skin", noSkin().best(0), NONE);
    }

    /** OVER. NONE: no such HANDS. */
    private static void promise25() {
        ScrapedSkin x = parchment();
        int[][] want = {{0, 0, 0}, {2, 0, 0}, {2, 0, 0}};
        for (int one = 0; one < 3; one++) {
            for (int other = 0; other < 3; other++) {
                same("over(" + one + ", " + other + ")", x.over(one, other), want[one][other]);
            }
        }
        x.write(2, 0, 1, 1);
        same("over two of hand 2, in cells 0 and 1", x.over(0, 2), 2);
        same("over its own, how far ever", x.over(0, 0), 2);
        same("no such hand", x.over(3, 0), NONE);
        same("no such hand", x.over(0, 3), NONE);
        same("no such hand", x.over(-1, 0), NONE);
        same("no such hand", x.over(0, -1), NONE);
        same("no skin", noSkin().over(0, 0), NONE);
    }

    /** ORDER: the row (0), how many lie otherwise (1). NONE: no SKIN, no such what. */
    private static void promise26() {
        ScrapedSkin x = parchment();
        same("0, 1, 2", x.order(0), 12);
        same("none lies otherwise", x.order(1), 0);
        x.write(2, 0, 1, 1);
        same("two over, two under: the least row", x.order(0), 12);
        same("two lie otherwise", x.order(1), 2);
        x.write(2, 0, 1, 1);
        same("four of hand 0 over two of hand 2: 2, 0, 1", x.order(0), 201);
        same("two lie otherwise", x.order(1), 2);
        same("no such what", x.order(2), NONE);
        same("no such what", x.order(-1), NONE);
        same("a blank skin", Checks.skin("h;h;h;h").order(0), 123);
        same("one hand", Checks.skin("h").order(0), 0);
        same("no skin", noSkin().order(0), NONE);
    }

    /** LOST. NONE: no such WRITING, it does not DO there, out of bounds. */
    private static void promise27() {
        ScrapedSkin x = parchment();
        // Row 0 holds letters up to 9, 9 and 6, row 1 up to 13 and 13.
        int[] want = {NONE, 22, 22, 9, 9, 6, 0};
        for (int v = 0; v < want.length; v++) {
            same("lost(0, 0, " + v + ")", x.lost(0, 0, v), want[v]);
        }
        same("cell 8 alone", x.lost(1, 20, 3), 4);
        same("all of row 1", x.lost(1, 20, 1), 13);
        same("sixteen", x.lost(0, 0, 16), 0);
        same("seventeen", x.lost(0, 0, 17), NONE);
        same("it does not do there", x.lost(0, 1, 1), NONE);
        same("no such writing", x.lost(4, 0, 1), NONE);
        same("no skin", noSkin().lost(0, 0, 1), NONE);
        same("apart", x.most(1), 72);
    }

    /** FADED. NONE: not within 99, no such WRITING, it does not DO there, out of bounds. */
    private static void promise28() {
        ScrapedSkin x = parchment();
        int[] want = {NONE, 4, 4, 3, 3, 3, 0};
        for (int v = 0; v < want.length; v++) {
            same("faded(0, 0, " + v + ")", x.faded(0, 0, v), want[v]);
        }
        Checks.tell(x, 1, "y:y>97?9");
        x.law(0);
        same("nothing until the year 98", x.faded(0, 0, 1), 99);
        same("sixteen", x.faded(0, 0, 16), 0);
        same("seventeen", x.faded(0, 0, 17), NONE);
        Checks.tell(x, 1, "y:y=99?9");
        x.law(1);
        same("a year too late", x.faded(0, 0, 1), NONE);
        x.ages(1);
        same("within, a year later", x.faded(0, 0, 1), 99);
        same("it does not do there", x.faded(0, 1, 1), NONE);
        same("no such writing", x.faded(4, 0, 1), NONE);
        same("no skin", noSkin().faded(0, 0, 1), NONE);
        same("apart", x.most(1), 72);
    }

    /** NOTED: how many there are. NONE: no such CELL, letter (0 .. 25), there are ten. */
    private static void promise29() {
        ScrapedSkin x = parchment();
        same("no such cell", x.noted(15, 0, true), NONE);
        same("no such cell", x.noted(-1, 0, true), NONE);
        same("no such letter", x.noted(0, 26, true), NONE);
        same("no such letter", x.noted(0, -1, false), NONE);
        for (int i = 1; i <= 10; i++) {
            same("noted", x.noted(i, 25, i % 2 == 0), i);
        }
        same("there are ten", x.noted(0, 0, true), NONE);
        same("ten", x.count(8), 10);
        same("no skin", noSkin().noted(0, 0, true), NONE);
    }

    /** FITS: how many (i NONE), the i-th. NONE: no such one, no SKIN. */
    private static void promise30() {
        ScrapedSkin x = parchment();
        x.noted(14, 2, true);
        same("cab/ab to the left from 14, ab.c to the right from 11", x.fits(NONE), 2);
        same("the first", x.fits(0), 58);
        same("the second", x.fits(1), 1044);
        same("no third", x.fits(2), NONE);
        same("no such one", x.fits(-2), NONE);
        x.noted(8, 1, false);
        same("no b in cell 8", x.fits(NONE), 1);
        same("ab.c", x.fits(0), 1044);
        x.noted(8, 1, true);
        same("both at once", x.fits(NONE), 0);
        same("the first of none", x.fits(0), NONE);
        same("no writing", Checks.skin("h").fits(NONE), 0);
        same("wherever it does, in four ways", Checks.skin("sw2r1;h", "a").fits(NONE), 8);
        same("no skin", noSkin().fits(NONE), NONE);
    }

    /** ASK. NONE: nothing fits, no SKIN. */
    private static void promise31() {
        ScrapedSkin x = parchment();
        x.noted(14, 2, true);
        same("a b or none in cell 8", x.ask(), 8);
        x.noted(8, 1, false);
        same("one is left, every cell tells the same", x.ask(), 0);
        x.noted(8, 1, true);
        same("nothing fits", x.ask(), NONE);
        same("no writing", Checks.skin("h").ask(), NONE);
        same("no skin", noSkin().ask(), NONE);
    }

    /** MEETS (of one with itself, too). NONE: no such WRITINGS. */
    private static void promise32() {
        ScrapedSkin x = parchment();
        int[][] want = {{3, 2, 1, 2}, {1, 4, 0, 0}, {0, 0, 1, 0}, {2, 1, 0, 4}};
        for (int one = 0; one < 4; one++) {
            for (int other = 0; other < 4; other++) {
                same("meets(" + one + ", " + other + ")", x.meets(one, other), want[one][other]);
            }
        }
        same("no such writing", x.meets(4, 0), NONE);
        same("no such writing", x.meets(0, 4), NONE);
        same("no such writing", x.meets(-1, 0), NONE);
        same("no such writing", x.meets(0, -1), NONE);
        same("no skin is needed", noSkin().meets(0, 0), 2);
    }

    /** QUIRE: the row (0), how much (1). NONE: no WRITING, no such what. */
    private static void promise33() {
        ScrapedSkin x = parchment();
        same("2, 3, 0, 1", x.quire(0), 2301);
        same("ca and ab", x.quire(1), 4);
        same("no such what", x.quire(2), NONE);
        same("no such what", x.quire(-1), NONE);
        same("one alone", noSkin().quire(0), 0);
        same("meets none", noSkin().quire(1), 0);
        same("no writing", new ScrapedSkin().quire(0), NONE);
    }

    /** GAME: what the scraper has (0), the reader (1). HIDDEN: no such ROW, out of bounds. */
    private static void promise34() {
        ScrapedSkin x = parchment();
        int[][] readers = {{1, 2, 4}, {1, 2, 4}, {1, 2, 4}, {3, 2, -2}};
        for (int by = 0; by <= 3; by++) {
            for (int y = 0; y <= 2; y++) {
                same("game(0, " + by + ", " + y + ", 0)", x.game(0, by, y, 0), -by);
                same("game(0, " + by + ", " + y + ", 1)", x.game(0, by, y, 1), readers[by][y]);
                same("game(2, " + by + ", " + y + ", 1)", x.game(2, by, y, 1), -y);
            }
        }
        x.ages(1);
        same("hand 0 at 7 and hand 1 at 6: three taken, three of hand 1 are illegible", x.game(1, 3, 0, 0), 3);
        int[][] wrong = {{3, 0, 0, 0}, {-1, 0, 0, 0}, {0, 4, 0, 0}, {0, -1, 0, 0}, {0, 0, 3, 0}, {0, 0, -1, 0},
            {0, 0, 0, 2}, {0, 0, 0, -1}};
        for (int[] one : wrong) {
            same("out of bounds", x.game(one[0], one[1], one[2], one[3]), HIDDEN);
        }
        same("no skin", noSkin().game(0, 0, 0, 0), HIDDEN);
        same("apart", x.rule(3), 25);
    }

    /** RESTS: how many (i NONE), the i-th. NONE: no such one, no such ROW. */
    private static void promise35() {
        ScrapedSkin x = parchment();
        same("row 0", x.rests(0, NONE), 1);
        same("not scraped, looked at both", x.rests(0, 0), 2);
        same("no second", x.rests(0, 1), NONE);
        same("row 1: not scraped, looked at above", x.rests(1, 0), 0);
        x.ages(1);
        same("row 1 a year later", x.rests(1, NONE), 1);
        same("scraped by three, looked at both", x.rests(1, 0), 32);
        same("no such one", x.rests(0, -2), NONE);
        same("no such row", x.rests(3, NONE), NONE);
        same("no such row", x.rests(-1, NONE), NONE);
        same("no skin", noSkin().rests(0, NONE), NONE);
    }

    /** ODDS. NONE: no such WRITING, it does not DO there, out of bounds. */
    private static void promise36() {
        ScrapedSkin x = parchment();
        int[] halves = {1000000000, 968750000, 812500000, 500000000, 187500000, 31250000, 0};
        for (int v = 0; v < halves.length; v++) {
            same("odds(0, 0, 50, " + v + ")", x.odds(0, 0, 50, v), halves[v]);
        }
        same("both of two", x.odds(2, 9, 33, 2), 448900000);
        same("one of two", x.odds(2, 9, 33, 1), 891100000);
        same("all are read rightly", x.odds(0, 0, 0, 5), 1000000000);
        same("none is", x.odds(0, 0, 100, 1), 0);
        same("none agrees", x.odds(2, 5, 0, 1), 0);
        same("sixteen", x.odds(0, 0, 0, 16), 0);
        same("v", x.odds(0, 0, 0, 17), NONE);
        same("v", x.odds(0, 0, 0, -1), NONE);
        same("chance", x.odds(0, 0, 101, 0), NONE);
        same("chance", x.odds(0, 0, -1, 0), NONE);
        same("it does not do there", x.odds(0, 1, 0, 0), NONE);
        same("no such writing", x.odds(4, 0, 0, 0), NONE);
        same("no skin", noSkin().odds(0, 0, 0, 0), NONE);
    }

    /** SHARES. NONE: no such HAND, out of bounds. */
    private static void promise37() {
        ScrapedSkin x = parchment();
        int[] hundredths = {62, 29, 8};
        for (int hand = 0; hand < 3; hand++) {
            same("shares(" + hand + ", 100)", x.shares(hand, 100), hundredths[hand]);
            same("of nothing", x.shares(hand, 0), 0);
        }
        same("999 times 45 by 72", x.shares(0, 999), 624);
        same("1000", x.shares(0, 1000), NONE);
        same("less than nothing", x.shares(0, -1), NONE);
        same("no such hand", x.shares(3, 1), NONE);
        same("no such hand", x.shares(-1, 1), NONE);
        same("a blank skin", Checks.skin("h").shares(0, 999), 0);
        same("no skin", noSkin().shares(0, 0), NONE);
    }

    /** LAYERS, STRENGTH, DEEPEST, FULLEST, BUSIEST, COMMONEST, BLANK, SHOWN, BENEATH, PURE. */
    private static void promise38() {
        ScrapedSkin x = parchment();
        int[] want = {10, 72, 0, 0, 0, 0, 9, 4, 2, 2};
        int[] blank = {0, 0, 0, 0, 0, NONE, 24, 0, 0, 0};
        for (int what = 0; what < 10; what++) {
            same("most(" + what + ")", x.most(what), want[what]);
            same("most(" + what + ") of a blank skin", Checks.skin("h").most(what), blank[what]);
            same("most(" + what + ") without a skin", noSkin().most(what), NONE);
        }
        // bc over cells 6 and 8, with a free sign between them: hand 1 has five layers, b five, row 1 seven.
        Checks.tell(x, 2, "b.c");
        x.write(4, 1, 6, 0);
        int[] then = {12, 86, 6, 1, 0, 1, 9, 4, 2, 2};
        for (int what = 0; what < 10; what++) {
            same("most(" + what + ") then", x.most(what), then[what]);
        }
        x.write(4, 1, 6, 0);
        same("hand 1 has seven", x.most(4), 1);
        same("no such what", x.most(10), NONE);
        same("no such what", x.most(-1), NONE);
    }

    /** An IMAGE (instead of the one ahead): the YEAR. NONE: no SKIN. */
    private static void promise39() {
        ScrapedSkin x = parchment();
        same("the first year", x.image(), 0);
        x.ages(3);
        same("instead of it", x.image(), 3);
        x.ages(2);
        same("back to the latter", x.back(), 3);
        same("an image is no act", x.count(10), 0);
        same("no skin", noSkin().image(), NONE);
    }

    /** BACK: the YEAR. NONE: no IMAGE of this SKIN. */
    private static void promise40() {
        ScrapedSkin x = parchment();
        same("no image", x.back(), NONE);
        x.ages(1);
        x.image();
        x.scrape(1, 9);
        x.give(9);
        x.ages(4);
        same("back", x.back(), 1);
        same("layers", x.most(0), 10);
        same("their strength", x.most(1), 59);
        same("coins", x.rule(3), 25);
        same("the log", x.count(9), 1);
        same("its row", x.log(0, 1), 59);
        same("no act can be undone", x.undo(), NONE);
        x.give(1);
        same("again", x.back(), 1);
        same("coins again", x.rule(3), 25);
        Checks.tell(x, 0, "h");
        same("no image of this skin", x.back(), NONE);
    }

    /** Counts of all kinds. HIDDEN for others. */
    private static void promise41() {
        ScrapedSkin x = parchment();
        Checks.tell(x, 1, "y:1");
        Checks.tell(x, 1, "y:2");
        x.law(1);
        x.scribes(8);
        x.noted(0, 0, true);
        x.ages(2);
        x.undo();
        Checks.feed(x, "hello");
        int[] want = {15, 3, 2, 4, 5, 1, 1, 8, 1, 1, 4};
        for (int what = 0; what < want.length; what++) {
            same("count(" + what + ")", x.count(what), want[what]);
        }
        same("others", x.count(11), HIDDEN);
        same("others", x.count(-1), HIDDEN);
        same("others", x.count(Integer.MIN_VALUE), HIDDEN);
        same("others", x.count(Integer.MAX_VALUE), HIDDEN);
    }
}
