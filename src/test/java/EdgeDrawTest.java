import java.util.function.Consumer;

/** The boundaries of YEARS by a seed, SCRIBES, IMAGES and counts: Terms 4, promises 11, 16, 39 to 41. */
public final class EdgeDrawTest {
    private static final int INK = 7;

    public static void main(String[] args) {
        scribing();
        neverAndNearlyAlways();
        drawsOneByOne();
        noWriting();
        whatCannotBeWritten();
        scrapedForNothing();
        eachYearOneAct();
        seedsOfAnySize();
        imagesRefused();
        imageAndBack();
        imageOfTheLog();
        anotherImage();
        imageOfAnotherSkin();
        counts();
        fiveHundredAndTwelveCalls();
        Checks.end();
    }

    /** Promise 11: SCRIBES (0 .. 9; 4 at first). False: out of bounds, it is so. */
    private static void scribing() {
        for (int v : new int[] {4, -1, 10, 11, Edges.MIN, Edges.MAX}) {
            Edges.silent("scribes " + v, x -> { }, x -> Edges.one(x.scribes(v)), 0);
        }
        for (int v = 0; v <= 9; v++) {
            if (v != 4) {
                ScrapedSkin x = new ScrapedSkin();
                Checks.same("scribes " + v, x.scribes(v), true);
                Checks.same("it is so", x.scribes(v), false);
                Checks.same("count", x.count(7), v);
                Checks.same("4 again", x.scribes(4), true);
                Checks.tell(x, 0, "h");
                Checks.same("no act", x.count(10), 0);
            }
        }
    }

    /** A draw of 10 below SCRIBES: 0 is below none, 9 alone is not below 9. */
    private static void neverAndNearlyAlways() {
        for (long seed = 0; seed < 60; seed++) {
            long[] state = {seed};
            int first = draw(state, 10);
            for (int v = 0; v <= 9; v++) {
                ScrapedSkin x = Checks.skin("sw2r1;hi9f0", "a");
                x.scribes(v);
                x.years(1, seed);
                Checks.same("seed " + seed + " by scribes " + v, x.most(0), first < v ? 1 : 0);
            }
        }
    }

    private static int draw(long[] state, int j) {
        state[0] = state[0] * 6364136223846793005L + 1442695040888963407L;
        return (int) ((state[0] >>> 33) % j);
    }

    /** The cells, each a pile of strengths from below; the ink does not fade. */
    private static final class Piles {
        private final int[][] strengths;
        private final int[] heights;
        private final long[] state;

        Piles(int cells, long seed) {
            strengths = new int[cells][6];
            heights = new int[cells];
            state = new long[] {seed};
        }

        /** All writings are of one letter, so that each does in every cell by every way. */
        void year(int scribes, int writings, int hands, int rows) {
            if (draw(state, 10) < scribes && writings > 0) {
                draw(state, writings);
                int hand = draw(state, hands);
                int cell = draw(state, heights.length);
                draw(state, 4);
                if (heights[cell] < 6) {
                    strengths[cell][heights[cell]] = INK + hand;
                    heights[cell]++;
                }
            }
            if (draw(state, 10) < 3) {
                int row = draw(state, rows);
                int wide = heights.length / rows;
                for (int cell = row * wide; cell < (row + 1) * wide; cell++) {
                    for (int n = 0; n < 2 && heights[cell] > 0; n++) {
                        strengths[cell][heights[cell] - 1]--;
                        heights[cell] -= strengths[cell][heights[cell] - 1] == 0 ? 1 : 0;
                    }
                }
            }
        }

        void alike(String what, ScrapedSkin x) {
            for (int cell = 0; cell < heights.length; cell++) {
                for (int i = 0; i < 6; i++) {
                    Checks.same(what + " cell " + cell + " layer " + i, x.layer(cell, i, 2),
                            i < heights[cell] ? strengths[cell][i] : -1);
                }
            }
        }
    }

    private static void drawsOneByOne() {
        int[] lengths = {1, 2, 29, 30};
        for (int seed = -8; seed <= 8; seed++) {
            for (int n : lengths) {
                for (int scribes : new int[] {0, 4, 9}) {
                    ScrapedSkin x = Checks.skin("sw2r3k0;hi7f0;hi8f0;hi9f0", "a", "b", "c", "d");
                    x.scribes(scribes);
                    Piles piles = new Piles(6, seed);
                    for (int i = 0; i < n; i++) {
                        piles.year(scribes, 4, 3, 3);
                    }
                    Checks.same("years " + n + " by " + seed, x.years(n, seed), n);
                    piles.alike("years " + n + " by " + seed, x);
                    Checks.same("for nothing", x.rule(3), 0);
                }
            }
        }
    }

    /** If there is a WRITING; and if it does there: else nothing is written, and nothing refused. */
    private static void noWriting() {
        for (long seed = 0; seed < 20; seed++) {
            ScrapedSkin x = Checks.skin("sw2r3;h");
            Checks.same("no writing", x.years(30, seed), 30);
            Checks.same("nothing is written", x.most(0), 0);
            ScrapedSkin y = Checks.skin("sw2r1k1;hi9f0", "a/b/c/d");
            Checks.same("it does nowhere", y.years(30, seed), 30);
            Checks.same("so nothing is written", y.most(0), 0);
            for (int kind = 0; kind < 5; kind++) {
                Checks.same("no status", y.status(kind), 0);
            }
        }
    }

    /** It is WRITTEN so, if it can be: not over six layers, nothing of it. */
    private static void whatCannotBeWritten() {
        Consumer<ScrapedSkin> full = x -> {
            Checks.tell(x, 0, "sw2r1k99;hi9f0");
            Checks.tell(x, 2, "ab");
            Checks.tell(x, 2, "c");
            for (int i = 0; i < 6; i++) {
                x.write(1, 0, 0, 0);
            }
            x.scribes(9);
        };
        for (long seed = 0; seed < 40; seed++) {
            long[] state = {seed};
            boolean writes = draw(state, 10) < 9;
            int writing = writes ? draw(state, 2) : 0;
            if (writes) {
                draw(state, 1);
            }
            int cell = writes ? draw(state, 2) : 0;
            if (writes) {
                draw(state, 4);
            }
            boolean written = writes && writing == 1 && cell == 1;
            boolean scraped = draw(state, 10) < 3;
            ScrapedSkin x = new ScrapedSkin();
            full.accept(x);
            Checks.same("a year by " + seed, x.years(1, seed), 1);
            Checks.same("the sixth by " + seed, x.layer(0, 5, 2), scraped ? 7 : 9);
            Checks.same("cell 1 by " + seed, x.layer(1, 0, 2), written ? scraped ? 7 : 9 : -1);
            Checks.same("coins stay", x.rule(3), 93);
            for (int kind = 0; kind < 5; kind++) {
                Checks.same("no status " + kind, x.status(kind), 0);
            }
        }
    }

    /** SCRAPED by 2 (for nothing; no LAYER in it: nothing): without a coin, a blank row without a status. */
    private static void scrapedForNothing() {
        for (long seed = 0; seed < 40; seed++) {
            ScrapedSkin x = Checks.skin("sw2r2k1;hi9f0", "a");
            x.write(0, 0, 3, 0);
            x.scribes(0);
            long[] state = {seed};
            draw(state, 10);
            boolean scraped = draw(state, 10) < 3;
            int row = scraped ? draw(state, 2) : 0;
            x.years(1, seed);
            Checks.same("scraped by seed " + seed, x.layer(3, 0, 2), scraped && row == 1 ? 7 : 9);
            Checks.same("no coin more or less", x.rule(3), 0);
            Checks.same("the log tells what faded alone", x.log(0, 0), 0);
            Checks.same("no status", x.status(2) + x.status(3), 0);
        }
    }

    /** Each YEAR with what is ahead of it is one ACT. */
    private static void eachYearOneAct() {
        for (long seed = 1; seed <= 12; seed++) {
            for (int left = 29; left >= 0; left--) {
                ScrapedSkin x = Checks.skin("sw2r3k0;hi7f0;hi8f0;hi9f0", "a", "b", "c", "d");
                x.scribes(9);
                x.years(30, seed);
                for (int undone = 29; undone >= left; undone--) {
                    Checks.same("still can be", x.undo(), undone);
                }
                Checks.same("the year", x.count(6), left);
                Piles piles = new Piles(6, seed);
                for (int i = 0; i < left; i++) {
                    piles.year(9, 4, 3, 3);
                }
                piles.alike(left + " years left of seed " + seed, x);
            }
        }
    }

    /** 64 bits, going round; shifted right without sign: seeds at the ends of a long. */
    private static void seedsOfAnySize() {
        long[] seeds = {Long.MIN_VALUE, Long.MIN_VALUE + 1, Long.MAX_VALUE, Long.MAX_VALUE - 1, -1, 0, 1, 1L << 33,
            -(1L << 33), Integer.MIN_VALUE, 1L << 62};
        for (long seed : seeds) {
            ScrapedSkin x = Checks.skin("sw2r3;hi7f0;hi8f0;hi9f0", "a", "b", "c", "d", "e", "f");
            Piles piles = new Piles(6, seed);
            for (int i = 0; i < 30; i++) {
                piles.year(4, 6, 3, 3);
            }
            x.years(30, seed);
            piles.alike("seed " + seed, x);
            x.years(30, seed);
            ScrapedSkin y = Checks.skin("sw2r3;hi7f0;hi8f0;hi9f0", "a", "b", "c", "d", "e", "f");
            y.years(30, seed);
            y.years(30, seed);
            Checks.holds("the same seed again is the same", Edges.seen(x).equals(Edges.seen(y)));
        }
    }

    /** Promises 39 and 40: NONE: no SKIN; no IMAGE of this SKIN. */
    private static void imagesRefused() {
        Edges.silent("no skin, no image", x -> { }, x -> x.image(), -1);
        Edges.silent("no skin, not back", x -> { }, x -> x.back(), -1);
        Edges.silent("no image", x -> {
            Checks.tell(x, 0, "sw2r1;h");
            x.ages(3);
        }, x -> x.back(), -1);
        Edges.silent("no image of this skin", x -> {
            Checks.tell(x, 0, "sw2r1;h");
            x.ages(3);
            x.image();
            Checks.tell(x, 0, "sw2r1;h");
            x.ages(2);
        }, x -> x.back(), -1);
    }

    /** An IMAGE keeps LAYERS, COINS, the YEAR, the LOG; BACK: they are so again (no ACT can be UNDONE then). */
    private static void imageAndBack() {
        ScrapedSkin x = Checks.skin("sw2r1k9;hi5f1", "a", "b");
        Checks.same("of a blank skin", x.image(), 0);
        x.write(0, 0, 0, 0);
        x.ages(2);
        Checks.same("back to it", x.back(), 0);
        Checks.same("blank", x.most(0), 0);
        Checks.same("coins", x.rule(3), 9);
        Checks.same("no log", x.count(9), 0);
        Checks.same("none can be undone", x.undo(), -1);
        x.write(0, 0, 0, 0);
        x.ages(2);
        Checks.same("in the year 2", x.image(), 2);
        Checks.same("no act by that", x.count(10), 3);
        x.write(1, 0, 0, 0);
        x.scrape(0, 3);
        x.ages(1);
        x.give(3);
        x.noted(0, 0, true);
        x.scribes(1);
        Checks.tell(x, 1, "y:1");
        x.law(0);
        x.undo();
        x.undo();
        for (int i = 0; i < 3; i++) {
            Checks.same("back, time " + i, x.back(), 2);
            Checks.same("its layer", x.layer(0, 0, 2), 3);
            Checks.same("no other", x.layer(0, 1, 2), -1);
            Checks.same("its coins", x.rule(3), 8);
            Checks.same("its year", x.count(6), 2);
            Checks.same("its log", x.count(9), 2);
            Checks.same("its latest row", x.log(0, 1), 3);
            Checks.same("no act", x.count(10), 0);
            Checks.same("none to undo", x.undo(), -1);
            Checks.same("noted as now", x.count(8), 1);
            Checks.same("the law as now", x.count(5), 0);
            Checks.same("scribes as now", x.count(7), 1);
            Checks.same("and goes on", x.ages(1), 3);
            Checks.same("one act since", x.count(10), 1);
        }
        Checks.same("undone to the image", x.undo(), 0);
        Checks.same("as the image", x.layer(0, 0, 2), 3);
        Checks.same("but not beyond", x.undo(), -1);
    }

    private static void imageOfTheLog() {
        ScrapedSkin x = Checks.skin("sw2r1k9;hi9f0", "a");
        Checks.tell(x, 1, "y:1");
        x.law(0);
        x.write(0, 0, 0, 0);
        x.ages(30);
        x.ages(30);
        x.image();
        for (int i = 0; i < 5; i++) {
            x.ages(30);
        }
        Checks.same("all other rows", x.log(59, 1), 0);
        Checks.same("back", x.back(), 60);
        Checks.same("sixty rows", x.count(9), 60);
        for (int i = 0; i < 60; i++) {
            Checks.same("row " + i + " as it was", x.log(i, 1), Math.max(0, 8 - (59 - i)));
        }
        x.ages(1);
        Checks.same("the first has gone", x.log(59, 1), 7);
        x.undo();
        Checks.same("and comes again", x.log(59, 1), 8);
    }

    /** Promise 39: (instead of the one ahead). */
    private static void anotherImage() {
        ScrapedSkin x = Checks.skin("sw2r1k9;hi5f0", "a");
        x.image();
        x.write(0, 0, 0, 0);
        x.ages(1);
        Checks.same("instead", x.image(), 1);
        x.write(0, 0, 1, 0);
        x.ages(1);
        Checks.same("back to the other one", x.back(), 1);
        Checks.same("one layer", x.most(0), 1);
        x.undo();
        Checks.same("not to the one ahead", x.back(), 1);
        Checks.same("one layer still", x.most(0), 1);
    }

    private static void imageOfAnotherSkin() {
        ScrapedSkin x = Checks.skin("sw2r1k9;hi5f0", "a");
        x.write(0, 0, 0, 0);
        x.image();
        Checks.same("a text with a fault is no other skin", Checks.tell(x, 0, "s"), -1);
        Checks.same("nor is a law", Checks.tell(x, 1, "y:1"), 0);
        Checks.same("nor a writing", Checks.tell(x, 2, "b"), 1);
        Checks.same("so there is its image", x.back(), 0);
        Checks.same("with its layer", x.most(0), 1);
        Checks.same("another skin", Checks.tell(x, 0, "sw2r1k9;hi5f0"), 2);
        Checks.same("none of this one", x.back(), -1);
        Checks.same("blank", x.most(0), 0);
        x.ages(4);
        Checks.same("one of this", x.image(), 4);
        x.ages(4);
        Checks.same("back to this", x.back(), 4);
    }

    /** Promise 41: HIDDEN for others; how long the LOG is (60 at most), ACTS that can be UNDONE (40 at most). */
    private static void counts() {
        Consumer<ScrapedSkin> past = x -> {
            Checks.tell(x, 0, "sw2r3k9;h;hi2");
            Checks.tell(x, 2, "a");
            Checks.tell(x, 2, "b");
            Checks.tell(x, 2, "c");
            Checks.tell(x, 1, "y:0");
            Checks.tell(x, 1, "y:1");
            x.law(1);
            x.scribes(9);
            x.ages(30);
            x.ages(30);
            x.ages(5);
            x.noted(0, 0, true);
            x.noted(0, 0, false);
            x.noted(1, 0, false);
            Checks.feed(x, "abcd");
        };
        int[] want = {6, 2, 2, 3, 4, 1, 65, 9, 3, 60, 40};
        for (int what = -2; what <= 12; what++) {
            int one = what;
            Edges.silent("count " + what, past, x -> x.count(one),
                    what >= 0 && what <= 10 ? want[what] : ScrapedSkin.HIDDEN);
        }
        for (int far : new int[] {Edges.MIN, Edges.MAX, ScrapedSkin.HIDDEN}) {
            Edges.silent("count " + far, past, x -> x.count(far), ScrapedSkin.HIDDEN);
        }
    }

    /** An object is used for at most 512 calls: the last of them is answered as the first. */
    private static void fiveHundredAndTwelveCalls() {
        ScrapedSkin x = new ScrapedSkin();
        Checks.same("call 1", x.feed('h', 0, 0, 0, 0), 1);
        Checks.same("call 2", x.text(0), 24);
        int calls = 2;
        while (calls < 510) {
            Checks.same("given in call " + (calls + 1), x.give(1), 21);
            Checks.same("undone in call " + (calls + 2), x.undo(), 0);
            calls += 2;
        }
        Checks.same("call 511", x.give(7), 27);
        Checks.same("call 512, the last", x.count(10), 1);
    }
}
