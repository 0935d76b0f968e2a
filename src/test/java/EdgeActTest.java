import java.util.function.Consumer;

/** The boundaries of acts, their bounds, their log and their undoing: Terms 2 and 4, promises 6, 7, 9, 11 to 19, 39 to 41. */
public final class EdgeActTest {
    public static void main(String[] args) {
        rulesAndHands();
        layersOfACell();
        whereAWritingDoes();
        whereLettersComeToLie();
        writeRefused();
        aCoinForEachLine();
        sixLayers();
        scrapeRefused();
        scrapedFromAbove();
        scrapedARowAlone();
        agesRefused();
        theLastYear();
        fadedToNothing();
        allCellsOfTheLargest();
        worthWithinZeroAndNine();
        allAsTheYearBegan();
        yearModuloHundred();
        theLatestSixty();
        rowsOfTheLog();
        giving();
        fortyActs();
        undoneOneByOne();
        whatIsNoAct();
        undoneLog();
        statusStays();
        Checks.end();
    }

    /** Promises 6 and 7: NONE: no SKIN, no such what; NoSuchElementException: no such ones. */
    private static void rulesAndHands() {
        Consumer<ScrapedSkin> two = x -> Checks.tell(x, 0, "sw3r2l4k5;hi2f9;hi9f0");
        int[] rules = {3, 2, 4, 5};
        int[][] hands = {{2, 9, 0, 0}, {9, 0, 0, 0}};
        for (int what = -1; what <= 4; what++) {
            int one = what;
            boolean is = what >= 0 && what < 4;
            Edges.silent("rule " + what, two, x -> x.rule(one), is ? rules[what] : -1);
            Edges.silent("rule without a skin", x -> { }, x -> x.rule(one), -1);
            for (int hand = -1; hand <= 2; hand++) {
                int who = hand;
                Edges.silent("hand " + hand + ", " + what, two, x -> Checks.hand(x, who, one),
                        is && hand >= 0 && hand < 2 ? hands[hand][what] : -77);
                Edges.silent("hand without a skin", x -> { }, x -> Checks.hand(x, who, one), -77);
            }
        }
        for (int far : new int[] {Edges.MIN, Edges.MAX}) {
            Edges.silent("rule " + far, two, x -> x.rule(far), -1);
            Edges.silent("hand " + far, two, x -> Checks.hand(x, far, 0), -77);
            Edges.silent("hand 0, " + far, two, x -> Checks.hand(x, 0, far), -77);
        }
        ScrapedSkin four = Checks.skin("h;h;h;hi4");
        Checks.same("the fourth hand", Checks.hand(four, 3, 0), 4);
        Checks.same("no fifth", Checks.hand(four, 4, 0), -77);
        ScrapedSkin x = Checks.skin("sw3r1k9;hi5f0;hi2f1", "ab", "c");
        x.write(0, 0, 0, 0);
        x.write(1, 1, 0, 0);
        x.ages(1);
        Checks.same("layers as now", Checks.hand(x, 1, 2), 1);
        Checks.same("strength as now", Checks.hand(x, 1, 3), 1);
        Checks.same("ink as told", Checks.hand(x, 1, 0), 2);
        x.ages(1);
        Checks.same("no layer now", Checks.hand(x, 1, 2), 0);
        Checks.same("two layers of the other one", Checks.hand(x, 0, 2), 2);
        Checks.same("no strength now", Checks.hand(x, 1, 3), 0);
        Checks.same("the other one has", Checks.hand(x, 0, 3), 10);
    }

    /** Promise 9, CELLS: ROW times WIDE and place, both from 0; LAYERS from below. */
    private static void layersOfACell() {
        Consumer<ScrapedSkin> past = x -> {
            Checks.tell(x, 0, "sw3r2k9;hi5f0;hi1f0");
            Checks.tell(x, 2, "a");
            Checks.tell(x, 2, "z");
            x.write(0, 0, 5, 0);
            x.write(1, 1, 5, 3);
        };
        int[][] want = {{0, 0, 5}, {25, 1, 1}};
        for (int cell = -1; cell <= 6; cell++) {
            for (int i = -1; i <= 2; i++) {
                for (int what = -1; what <= 3; what++) {
                    int c = cell;
                    int h = i;
                    int w = what;
                    boolean is = cell == 5 && i >= 0 && i < 2 && what >= 0 && what < 3;
                    Edges.silent("layer(" + cell + ", " + i + ", " + what + ")", past, x -> x.layer(c, h, w),
                            is ? want[i][what] : -1);
                }
            }
        }
        for (int far : new int[] {Edges.MIN, Edges.MAX}) {
            Edges.silent("cell " + far, past, x -> x.layer(far, 0, 0), -1);
            Edges.silent("layer " + far, past, x -> x.layer(5, far, 0), -1);
            Edges.silent("what " + far, past, x -> x.layer(5, 0, far), -1);
        }
        Edges.silent("no skin", x -> { }, x -> x.layer(0, 0, 0), -1);
    }

    /** It DOES there, if all its SIGNS (those left free, too) are in the SKIN: ab./c in 4 times 3 cells. */
    private static void whereAWritingDoes() {
        Consumer<ScrapedSkin> past = x -> {
            Checks.tell(x, 0, "sw4r3k9;hi5f0");
            Checks.tell(x, 2, "ab./c");
        };
        for (int row = 0; row < 3; row++) {
            for (int place = 0; place < 4; place++) {
                boolean[] does = {row <= 1 && place <= 1, row == 0 && place >= 1, row >= 1 && place >= 2,
                    row == 2 && place <= 2};
                for (int way = 0; way < 4; way++) {
                    int cell = 4 * row + place;
                    int w = way;
                    String what = "ab./c at " + cell + " by way " + way;
                    Edges.silent(what, past, x -> x.agrees(0, 4 * cell + w, 1), does[way] ? 3 : -1);
                    if (does[way]) {
                        ScrapedSkin x = new ScrapedSkin();
                        past.accept(x);
                        Checks.same(what + " written", x.write(0, 0, cell, way), 3);
                        Checks.same(what + " for two coins", x.rule(3), 7);
                    } else {
                        Edges.refused(what, past, x -> x.write(0, 0, cell, w), -1, 1);
                    }
                }
            }
        }
        ScrapedSkin x = Checks.skin("sw8r5k20;h", "abcdefgh", "a/b/c/d");
        Checks.same("a line as long as a row", x.write(0, 0, 32, 0), 8);
        Checks.same("from its end", x.write(0, 0, 39, 2), 16);
        Checks.same("it does in no column", x.write(0, 0, 4, 1), -1);
        Checks.same("four lines down", x.write(1, 0, 8, 0), 20);
        Checks.same("not from the row below", x.write(1, 0, 16, 0), -1);
        Checks.same("nor upwards from the third", x.write(1, 0, 16, 2), -1);
        Checks.same("but from the fourth", x.write(1, 0, 24, 2), 24);
        Checks.same("status 1", x.status(1), 3);
    }

    /** WAY 0: to the right, the next below; 1: down, the next left; 2: left, the next above; 3: up, the next right. */
    private static void whereLettersComeToLie() {
        int[][] cells = {{1, 2, 4, 5}, {1, 4, 0, 3}, {5, 4, 2, 1}, {3, 0, 4, 1}};
        for (int way = 0; way < 4; way++) {
            ScrapedSkin x = Checks.skin("sw3r2k9;h", "ab/cd");
            Checks.same("written by way " + way, x.write(0, 0, cells[way][0], way), 4);
            for (int letter = 0; letter < 4; letter++) {
                Checks.same("letter " + letter + " by way " + way, x.shows(cells[way][letter]), letter);
            }
        }
    }

    private static void skinToWriteOn(ScrapedSkin x) {
        Checks.tell(x, 0, "sw4r2k3;hi5f1;hi9");
        Checks.tell(x, 2, "ab");
        Checks.tell(x, 2, "c/.d");
        x.write(0, 0, 0, 0);
    }

    /** Promise 12: no such WRITING, HAND (0), no such CELL, WAY, it does not DO there (1), too few COINS, six (3). */
    private static void writeRefused() {
        int[][] wrong = {
            {-1, 0, 0, 0, 0}, {2, 0, 0, 0, 0}, {0, -1, 0, 0, 0}, {0, 2, 0, 0, 0}, {Edges.MIN, 0, 0, 0, 0},
            {Edges.MAX, 0, 0, 0, 0}, {0, Edges.MIN, 0, 0, 0}, {0, Edges.MAX, 0, 0, 0}, {2, 2, 8, 4, 0}, {0, 2, 8, 4, 0},
            {2, 0, 3, 0, 0},
            {0, 0, -1, 0, 1}, {0, 0, 8, 0, 1}, {0, 0, Edges.MIN, 0, 1}, {0, 0, Edges.MAX, 0, 1}, {0, 0, 1 << 30, 0, 1},
            {0, 0, 0, -1, 1}, {0, 0, 0, 4, 1}, {0, 0, 0, Edges.MIN, 1}, {0, 0, 0, Edges.MAX, 1}, {0, 0, 1, -4, 1},
            {0, 0, 3, 0, 1}, {0, 0, 7, 0, 1}, {0, 0, 4, 1, 1}, {0, 0, 0, 2, 1}, {0, 0, 3, 3, 1}, {1, 0, 4, 0, 1},
        };
        for (int[] one : wrong) {
            Edges.refused("write " + java.util.Arrays.toString(one), EdgeActTest::skinToWriteOn,
                    x -> x.write(one[0], one[1], one[2], one[3]), -1, one[4]);
        }
        Edges.refused("no skin", x -> Checks.tell(x, 2, "a"), x -> x.write(0, 0, 0, 0), -1, 0);
        Edges.refused("no skin goes ahead of no cell", x -> Checks.tell(x, 2, "a"), x -> x.write(0, 0, 99, 9), -1, 0);
        Edges.refused("no writing at all", x -> Checks.tell(x, 0, "h"), x -> x.write(0, 0, 0, 0), -1, 0);
        Consumer<ScrapedSkin> poor = x -> {
            skinToWriteOn(x);
            x.write(0, 0, 4, 0);
            x.write(0, 0, 0, 0);
        };
        Edges.refused("too few coins", poor, x -> x.write(0, 0, 0, 0), -1, 3);
        Edges.refused("what does not do goes ahead of coins", poor, x -> x.write(0, 0, 3, 0), -1, 1);
        Edges.refused("no such hand goes ahead of both", poor, x -> x.write(0, 2, 3, 0), -1, 0);
        Consumer<ScrapedSkin> full = x -> {
            Checks.tell(x, 0, "sw4r2k6;hi5f1");
            Checks.tell(x, 2, "ab");
            for (int i = 0; i < 6; i++) {
                x.write(0, 0, 0, 0);
            }
        };
        Edges.refused("no coin and six layers are told once", full, x -> x.write(0, 0, 0, 0), -1, 3);
        Edges.refused("what does not do goes ahead of six layers", full, x -> x.write(0, 0, 0, 2), -1, 1);
    }

    /** A COIN for each LINE. */
    private static void aCoinForEachLine() {
        String[] writings = {"ab", "a/b", "a/b/c", "a/b/c/d"};
        for (int lines = 1; lines <= 4; lines++) {
            String writing = writings[lines - 1];
            for (int coins = 0; coins <= 5; coins++) {
                String rules = "sw4r4k" + coins + ";h";
                if (coins < lines) {
                    Edges.refused(lines + " lines for " + coins, x -> {
                        Checks.tell(x, 0, rules);
                        Checks.tell(x, 2, writing);
                    }, x -> x.write(0, 0, 0, 0), -1, 3);
                } else {
                    ScrapedSkin x = Checks.skin(rules, writing);
                    Checks.same(lines + " lines for " + coins, x.write(0, 0, 0, 0), Math.max(2, lines));
                    Checks.same("coins left", x.rule(3), coins - lines);
                }
            }
        }
    }

    /** In a CELL there are 6 LAYERS at most; a CELL of a letter has six (3). */
    private static void sixLayers() {
        Consumer<ScrapedSkin> five = x -> {
            Checks.tell(x, 0, "sw3r1k50;hi5f0;hi9f0");
            Checks.tell(x, 2, "a");
            Checks.tell(x, 2, "ba");
            Checks.tell(x, 2, "c.c");
            for (int i = 0; i < 5; i++) {
                x.write(0, 0, 1, 0);
            }
        };
        Consumer<ScrapedSkin> six = x -> {
            five.accept(x);
            x.write(0, 1, 1, 0);
        };
        ScrapedSkin x = new ScrapedSkin();
        five.accept(x);
        Checks.same("a sixth", x.write(0, 1, 1, 0), 6);
        Checks.same("lies uppermost", x.layer(1, 5, 2), 9);
        Checks.same("the fifth beneath", x.layer(1, 4, 2), 5);
        Edges.refused("a seventh", six, s -> s.write(0, 0, 1, 0), -1, 3);
        Edges.refused("by another way", six, s -> s.write(0, 1, 1, 3), -1, 3);
        Edges.refused("nor is the letter beside it written", six, s -> s.write(1, 0, 0, 0), -1, 3);
        Edges.refused("nor the one behind it", six, s -> s.write(1, 0, 1, 0), -1, 3);
        Checks.same("a sign left free over six is written", x.write(2, 0, 0, 0), 8);
        Checks.same("nothing more over the six", x.layer(1, 6, 0), -1);
        x.scrape(0, 9);
        Checks.same("one of six gone, a sixth again", x.write(0, 0, 1, 0), 6);
    }

    private static void skinToScrape(ScrapedSkin x) {
        Checks.tell(x, 0, "sw3r3k2;hi5f1");
        Checks.tell(x, 2, "ab");
        x.write(0, 0, 3, 0);
    }

    /** Promise 13: no SKIN (0), no such ROW, out of bounds (1), no LAYER in it (2), no COIN (3). */
    private static void scrapeRefused() {
        int[][] wrong = {
            {-1, 1, 1}, {3, 1, 1}, {Edges.MIN, 1, 1}, {Edges.MAX, 1, 1}, {1, 0, 1}, {1, -1, 1}, {1, 10, 1},
            {1, Edges.MIN, 1}, {1, Edges.MAX, 1}, {0, 0, 1}, {0, 10, 1}, {3, 10, 1}, {0, 1, 2}, {2, 9, 2},
        };
        for (int[] one : wrong) {
            Edges.refused("scrape " + one[0] + ", " + one[1], EdgeActTest::skinToScrape,
                    x -> x.scrape(one[0], one[1]), -1, one[2]);
        }
        Edges.refused("no skin", x -> { }, x -> x.scrape(0, 1), -1, 0);
        Edges.refused("no skin goes ahead", x -> { }, x -> x.scrape(-1, 99), -1, 0);
        Consumer<ScrapedSkin> poor = x -> {
            skinToScrape(x);
            x.scrape(1, 1);
        };
        Edges.refused("no coin", poor, x -> x.scrape(1, 1), -1, 3);
        Edges.refused("no layer goes ahead of no coin", poor, x -> x.scrape(0, 1), -1, 2);
        Edges.refused("no such row goes ahead of both", poor, x -> x.scrape(3, 1), -1, 1);
        ScrapedSkin x = new ScrapedSkin();
        skinToScrape(x);
        Checks.same("by the last coin", x.scrape(1, 1), 0);
        Checks.same("no coin left", x.rule(3), 0);
        x.give(2);
        Checks.same("by 9", x.scrape(1, 9), 2);
        Checks.same("nothing is left to scrape", x.scrape(1, 9), -1);
        Checks.same("status 2", x.status(2), 1);
        Checks.same("for no coin", x.rule(3), 1);
    }

    /** STRENGTH is taken away from above, n in all, from the next only when that above has none left. */
    private static void scrapedFromAbove() {
        int[][] left = {{5, 4, 2}, {5, 4, 1}, {5, 4}, {5, 3}, {5, 2}, {5, 1}, {5}, {4}, {3}};
        for (int n = 1; n <= 9; n++) {
            ScrapedSkin x = stack();
            int[] want = left[n - 1];
            Checks.same("scraped by " + n, x.scrape(0, n), 3 - want.length);
            Checks.same("a coin", x.rule(3), 6);
            for (int i = 0; i < 3; i++) {
                Checks.same("layer " + i + " scraped by " + n, x.layer(0, i, 2), i < want.length ? want[i] : -1);
                Checks.same("its letter", x.layer(0, i, 0), i < want.length ? i : -1);
            }
        }
        ScrapedSkin x = stack();
        x.scrape(0, 9);
        Checks.same("by just what is left", x.scrape(0, 3), 1);
        Checks.same("blank", x.most(6), 2);
        ScrapedSkin y = stack();
        y.scrape(0, 9);
        Checks.same("by more than is left", y.scrape(0, 9), 1);
        Checks.same("blank then", y.most(0), 0);
    }

    /** Layers of 5, 4, 3 from below in the first of two cells. */
    private static ScrapedSkin stack() {
        ScrapedSkin x = Checks.skin("sw2r1k10;hi5f0;hi4f0;hi3f0", "a", "b", "c");
        for (int i = 0; i < 3; i++) {
            x.write(i, i, 0, 0);
        }
        return x;
    }

    /** In each of its CELLS: the first and the last of the row, not those of the rows beside it. */
    private static void scrapedARowAlone() {
        for (int row = 0; row < 3; row++) {
            ScrapedSkin x = Checks.skin("sw3r3k20;hi2f0", "abc/def/ghi");
            x.write(0, 0, 0, 0);
            Checks.same("scraped", x.scrape(row, 1), 0);
            for (int cell = 0; cell < 9; cell++) {
                Checks.same("cell " + cell + ", row " + row + " scraped", x.layer(cell, 0, 2), cell / 3 == row ? 1 : 2);
            }
            Checks.same("all of it gone", x.scrape(row, 1), 3);
            Checks.same("six left", x.most(0), 6);
        }
    }

    private static void skinThatAges(ScrapedSkin x, int year) {
        Checks.tell(x, 0, "sw2r1k9;hi5f0");
        Checks.tell(x, 2, "a");
        x.write(0, 0, 0, 0);
        for (int i = 0; i < year / 30; i++) {
            x.ages(30);
        }
        x.ages(year % 30);
    }

    /** Promises 14 and 16: no SKIN (0), out of bounds (1), beyond 999 (4); YEARS by a seed: no STATUS. */
    private static void agesRefused() {
        for (int n : new int[] {0, -1, 31, 32, 1000, Edges.MIN, Edges.MAX}) {
            Edges.refused("ages " + n, x -> skinThatAges(x, 1), x -> x.ages(n), -1, 1);
            Edges.refused("ages " + n + " in the last year", x -> skinThatAges(x, 999), x -> x.ages(n), -1, 1);
            Edges.refused("ages " + n + " without a skin", x -> { }, x -> x.ages(n), -1, 0);
            Edges.silent("years " + n, x -> skinThatAges(x, 1), x -> x.years(n, 1), -1);
            Edges.silent("years " + n + " without a skin", x -> { }, x -> x.years(n, 1), -1);
        }
        Edges.refused("no skin", x -> { }, x -> x.ages(1), -1, 0);
        Edges.silent("no skin for a seed", x -> { }, x -> x.years(1, 1), -1);
        for (int n : new int[] {1, 2, 29, 30}) {
            ScrapedSkin x = new ScrapedSkin();
            skinThatAges(x, 3);
            Checks.same("ages " + n, x.ages(n), 3 + n);
            Checks.same("years " + n, x.years(n, 5), 3 + 2 * n);
            Checks.same("the year", x.count(6), 3 + 2 * n);
            Checks.same("the log", x.count(9), Math.min(60, 3 + 2 * n));
        }
    }

    /** The YEAR, 0 at first, 999 at most. */
    private static void theLastYear() {
        Checks.same("0 at first", Checks.skin("h").count(6), 0);
        for (int year : new int[] {969, 970, 971, 998, 999}) {
            for (int n : new int[] {1, 2, 28, 29, 30}) {
                if (year + n > 999) {
                    Edges.refused("ages " + n + " in " + year, x -> skinThatAges(x, year), x -> x.ages(n), -1, 4);
                    Edges.silent("years " + n + " in " + year, x -> skinThatAges(x, year), x -> x.years(n, 3), -1);
                } else {
                    ScrapedSkin x = new ScrapedSkin();
                    skinThatAges(x, year);
                    Checks.same("ages " + n + " in " + year, x.ages(n), year + n);
                    ScrapedSkin y = new ScrapedSkin();
                    skinThatAges(y, year);
                    Checks.same("years " + n + " in " + year, y.years(n, 3), year + n);
                }
            }
        }
        ScrapedSkin x = new ScrapedSkin();
        skinThatAges(x, 999);
        Checks.same("one undone", x.undo(), 39);
        Checks.same("there is a year left", x.ages(1), 999);
        Checks.same("the skin may be written on behind it", x.write(0, 0, 1, 0), 2);
    }

    /** Without STRENGTH it is gone: faded by as much, by one less, by one more. */
    private static void fadedToNothing() {
        for (int ink = 1; ink <= 9; ink++) {
            for (int fast = 0; fast <= 9; fast++) {
                ScrapedSkin x = Checks.skin("sw2r1l1k9;hi" + ink + "f" + fast, "a");
                x.write(0, 0, 1, 0);
                x.ages(1);
                Checks.same(ink + " faded by " + fast, x.layer(1, 0, 2), fast < ink ? ink - fast : -1);
                Checks.same("gone by that", x.log(0, 0), fast < ink ? 0 : 1);
                Checks.same("strength then", x.log(0, 1), Math.max(0, ink - fast));
                Checks.same("shown then", x.log(0, 2), fast < ink ? 1 : 0);
            }
        }
        ScrapedSkin x = Checks.skin("sw2r1k9;hi5f0;hi5f9", "a", "b");
        x.write(1, 1, 0, 0);
        x.write(0, 0, 0, 0);
        x.write(1, 1, 0, 0);
        x.ages(1);
        Checks.same("what is left comes to lie lowest", x.layer(0, 0, 0), 0);
        Checks.same("and alone", x.layer(0, 1, 0), -1);
        Checks.same("two were gone", x.log(0, 0), 2);
    }

    /** The largest skin: its first and its last cell fade, and no more than its rows are scraped. */
    private static void allCellsOfTheLargest() {
        ScrapedSkin x = Checks.skin("sw8r5k99;hi9f1", "abcdefgh/abcdefgh", "abcdefgh");
        x.write(0, 0, 0, 0);
        x.write(0, 0, 16, 0);
        Checks.same("forty layers", x.write(1, 0, 32, 0), 40);
        x.ages(1);
        for (int cell = 0; cell < 40; cell++) {
            Checks.same("faded in cell " + cell, x.layer(cell, 0, 2), 8);
        }
        Checks.same("the last row", x.scrape(4, 8), 8);
        Checks.same("the first row", x.scrape(0, 7), 0);
        Checks.same("its last cell", x.layer(7, 0, 2), 1);
        Checks.same("not the cell behind it", x.layer(8, 0, 2), 8);
        x.years(30, 5);
        Checks.same("and goes on", x.count(6), 31);
    }

    /** Less STRENGTH by WORTH, held within 0 .. 9 (none at first: how FAST its HAND's ink fades). */
    private static void worthWithinZeroAndNine() {
        String[] laws = {"y:0-9999", "y:0-1", "y:0", "y:1", "y:8", "y:9", "y:10", "y:9999"};
        int[] left = {9, 9, 9, 8, 1, -1, -1, -1};
        for (int i = 0; i < laws.length; i++) {
            ScrapedSkin x = Checks.skin("sw2r1k9;hi9f3", "a");
            Checks.tell(x, 1, laws[i]);
            x.write(0, 0, 0, 0);
            x.ages(1);
            Checks.same("a law that is told does not hold yet", x.layer(0, 0, 2), 6);
            x.undo();
            x.law(0);
            x.ages(1);
            Checks.same("left by " + laws[i], x.layer(0, 0, 2), left[i]);
            x.undo();
            x.law(-1);
            x.ages(1);
            Checks.same("no law holds again", x.layer(0, 0, 2), 6);
        }
    }

    /** All as the YEAR began: s before it faded, d with those that go in the same year. */
    private static void allAsTheYearBegan() {
        ScrapedSkin x = Checks.skin("sw2r1k9;hi9f0", "a", "b", "c");
        Checks.tell(x, 1, "y:d<2?9");
        x.law(0);
        for (int i = 0; i < 3; i++) {
            x.write(i, 0, 0, 0);
        }
        x.ages(1);
        Checks.same("two of three are gone", x.log(0, 0), 2);
        Checks.same("the lowest had two over it", x.layer(0, 0, 2), 9);
        x.ages(1);
        Checks.same("now it has none", x.most(0), 0);
        ScrapedSkin y = Checks.skin("sw2r1k9;hi9f0", "a");
        Checks.tell(y, 1, "y:d=5?1;y:d=4?2;y:d=3?3;y:d=2?4;y:d=1?5;y:d=0?6");
        y.law(0);
        for (int i = 0; i < 6; i++) {
            y.write(0, 0, 0, 0);
        }
        y.ages(1);
        for (int i = 0; i < 6; i++) {
            Checks.same("layer " + i + " of six", y.layer(0, i, 2), 8 - i);
        }
        ScrapedSkin z = Checks.skin("sw2r1k9;hi9f0", "a");
        Checks.tell(z, 1, "y:s=9?1;y:s=8?3;y:s=5?4;y:s=1?1");
        z.law(0);
        z.write(0, 0, 0, 0);
        int[] left = {8, 5, 1, -1};
        for (int i = 0; i < 4; i++) {
            z.ages(1);
            Checks.same("strength of year " + (i + 1), z.layer(0, 0, 2), left[i]);
        }
    }

    /** y the YEAR modulo 100, as it began: 0 in the years 0, 100 and 900, 99 in the year 99. */
    private static void yearModuloHundred() {
        ScrapedSkin x = Checks.skin("sw2r1k9;hi9f0", "a");
        Checks.tell(x, 1, "y:y=0?1;y:y=99?2");
        x.law(0);
        x.write(0, 0, 0, 0);
        x.ages(1);
        Checks.same("the year 0", x.layer(0, 0, 2), 8);
        age(x, 98);
        Checks.same("the years 1 to 98", x.layer(0, 0, 2), 8);
        x.ages(1);
        Checks.same("the year 99", x.layer(0, 0, 2), 6);
        x.ages(1);
        Checks.same("the year 100", x.layer(0, 0, 2), 5);
        age(x, 98);
        Checks.same("the years 101 to 198", x.layer(0, 0, 2), 5);
        x.ages(1);
        Checks.same("the year 199", x.layer(0, 0, 2), 3);
        x.law(-1);
        age(x, 798);
        Checks.same("the year is", x.count(6), 998);
        x.law(0);
        Checks.same("faded apart: 998, 999 and behind it 1000", x.faded(0, 0, 1), 2);
        Checks.same("the last year", x.ages(1), 999);
        Checks.same("the year 998", x.layer(0, 0, 2), 3);
    }

    private static void age(ScrapedSkin x, int years) {
        for (int left = years; left > 0; left -= 30) {
            x.ages(Math.min(30, left));
        }
    }

    /** A layer of 9 that has 8 behind the first year, 7 behind the second .. 0 behind the ninth. */
    private static ScrapedSkin fadingNineYears() {
        ScrapedSkin x = Checks.skin("sw2r1k9l4;hi9f0", "a");
        Checks.tell(x, 1, "y:1");
        x.law(0);
        x.write(0, 0, 0, 0);
        return x;
    }

    /** The LOG: (the latest 60). */
    private static void theLatestSixty() {
        ScrapedSkin x = fadingNineYears();
        age(x, 59);
        Checks.same("fifty-nine", x.count(9), 59);
        Checks.same("the first", x.log(58, 1), 8);
        Checks.same("none ahead of it", x.log(59, 1), -1);
        x.ages(1);
        Checks.same("sixty", x.count(9), 60);
        Checks.same("the first of sixty", x.log(59, 1), 8);
        Checks.same("none ahead of that", x.log(60, 1), -1);
        x.ages(1);
        Checks.same("sixty still", x.count(9), 60);
        Checks.same("the second is told", x.log(59, 1), 7);
        Checks.same("the first is not", x.log(60, 1), -1);
        Checks.same("gone in the ninth", x.log(52, 0), 1);
        Checks.same("not in the tenth", x.log(51, 0), 0);
        Checks.same("nor in the eighth", x.log(53, 0), 0);
        Checks.same("shown behind the fifth, by 4", x.log(56, 2), 1);
        Checks.same("not behind the sixth, by 3", x.log(55, 2), 0);
    }

    /** Promise 19: the latest (i 0), the one ahead of it (1); NONE: no such ones. */
    private static void rowsOfTheLog() {
        Consumer<ScrapedSkin> past = x -> {
            Checks.tell(x, 0, "sw2r1k9;hi3f0;hi1f1");
            Checks.tell(x, 2, "a");
            x.write(0, 0, 0, 0);
            x.write(0, 1, 1, 0);
            x.ages(2);
        };
        int[][] want = {{0, 3, 1}, {1, 3, 1}};
        for (int i = -2; i <= 2; i++) {
            for (int what = -1; what <= 3; what++) {
                int n = i;
                int w = what;
                boolean is = i >= 0 && i < 2 && what >= 0 && what < 3;
                Edges.silent("log " + i + ", " + what, past, x -> x.log(n, w), is ? want[i][what] : -1);
            }
        }
        for (int far : new int[] {Edges.MIN, 60, 100, Edges.MAX}) {
            Edges.silent("log " + far, past, x -> x.log(far, 0), -1);
            Edges.silent("log 0, " + far, past, x -> x.log(0, far), -1);
        }
        Edges.silent("an empty log", x -> Checks.tell(x, 0, "h"), x -> x.log(0, 0), -1);
        Edges.silent("no skin", x -> { }, x -> x.log(0, 0), -1);
    }

    private static void skinWithCoins(ScrapedSkin x, int coins) {
        Checks.tell(x, 0, "sw2r1k99;h");
        for (int left = coins - 99; left > 0; left -= 50) {
            x.give(Math.min(50, left));
        }
    }

    /** COINS are given (1 .. 50; 999 at most); promise 15: no SKIN (0), out of bounds, above 999 (1). */
    private static void giving() {
        for (int n : new int[] {0, -1, 51, 52, Edges.MIN, Edges.MAX}) {
            Edges.refused("give " + n, x -> skinWithCoins(x, 99), x -> x.give(n), -1, 1);
            Edges.refused("give " + n + " without a skin", x -> { }, x -> x.give(n), -1, 0);
        }
        Edges.refused("no skin", x -> { }, x -> x.give(1), -1, 0);
        for (int coins : new int[] {948, 949, 950, 998, 999}) {
            for (int n : new int[] {1, 2, 49, 50}) {
                if (coins + n > 999) {
                    Edges.refused(coins + " and " + n, x -> skinWithCoins(x, coins), x -> x.give(n), -1, 1);
                } else {
                    ScrapedSkin x = new ScrapedSkin();
                    skinWithCoins(x, coins);
                    Checks.same(coins + " and " + n, x.give(n), coins + n);
                    Checks.same("coins", x.rule(3), coins + n);
                }
            }
        }
    }

    /** The latest 40 can be UNDONE one by one; promise 18: NONE: none. */
    private static void fortyActs() {
        for (int acts = 0; acts <= 42; acts++) {
            ScrapedSkin x = Checks.skin("sw2r1k0;h");
            for (int i = 0; i < acts; i++) {
                x.give(1);
            }
            int kept = Math.min(40, acts);
            Checks.same("acts that can be undone of " + acts, x.count(10), kept);
            for (int i = 1; i <= kept; i++) {
                Checks.same("undo " + i + " of " + acts, x.undo(), kept - i);
                Checks.same("coins", x.rule(3), acts - i);
            }
            Checks.same("no more of " + acts, x.undo(), -1);
            Checks.same("those ahead of forty stay", x.rule(3), acts - kept);
        }
        Edges.silent("nothing to undo", x -> Checks.tell(x, 0, "h"), x -> x.undo(), -1);
        Edges.silent("no skin to undo", x -> { }, x -> x.undo(), -1);
        ScrapedSkin x = Checks.skin("sw2r1k0;hf0");
        Checks.same("thirty years", x.ages(30), 30);
        Checks.same("each one act", x.count(10), 30);
        x.ages(10);
        Checks.same("forty", x.count(10), 40);
        x.ages(1);
        Checks.same("not forty-one", x.count(10), 40);
        for (int i = 0; i < 40; i++) {
            x.undo();
        }
        Checks.same("one year stays", x.count(6), 1);
        Checks.same("behind that others are done", x.years(30, 1), 31);
        Checks.same("by a seed each year is one, too", x.count(10), 30);
    }

    private static void undoneOneByOne() {
        ScrapedSkin x = Checks.skin("sw3r1k5;hi5f2", "ab");
        x.write(0, 0, 0, 0);
        x.write(0, 0, 1, 0);
        x.scrape(0, 6);
        x.ages(1);
        x.give(50);
        // Ahead of give: b alone, scraped to 4, faded to 2; ahead of the year: 4; ahead of the scraping: four of 5 ..
        int[][] told = {{1, 2, 1, 2}, {1, 4, 0, 2}, {4, 20, 0, 3}, {2, 10, 0, 4}, {0, 0, 0, 5}};
        for (int i = 0; i < 5; i++) {
            Checks.same("still can be", x.undo(), 4 - i);
            Checks.same("layers behind undo " + i, x.most(0), told[i][0]);
            Checks.same("strength", x.most(1), told[i][1]);
            Checks.same("year", x.count(6), told[i][2]);
            Checks.same("log", x.count(9), told[i][2]);
            Checks.same("coins", x.rule(3), told[i][3]);
        }
        Checks.same("none", x.undo(), -1);
        Checks.same("refused acts are none", x.write(0, 0, 2, 0) + x.give(0) + x.scrape(0, 1), -3);
        Checks.same("none still", x.undo(), -1);
    }

    /** What is no ACT is neither undone nor in the way of undoing. */
    private static void whatIsNoAct() {
        ScrapedSkin x = Checks.skin("sw3r1k5;hi5f2", "ab");
        x.write(0, 0, 0, 0);
        x.noted(0, 0, true);
        x.scribes(8);
        Checks.tell(x, 1, "y:3");
        x.law(0);
        Checks.tell(x, 2, "c");
        Checks.tell(x, 0, "sw9");
        x.image();
        x.fault(0);
        x.end(2);
        Checks.same("one act", x.count(10), 1);
        Checks.same("undone", x.undo(), 0);
        Checks.same("blank", x.most(0), 0);
        Checks.same("noted", x.count(8), 1);
        Checks.same("scribes", x.count(7), 8);
        Checks.same("the law", x.count(5), 0);
        Checks.same("both writings", x.count(3), 2);
        Checks.same("the tape", x.count(4), 2);
        Checks.same("the image", x.back(), 0);
        Checks.same("with what was written", x.most(0), 2);
    }

    /** (LOG, too): years that were told no more are told again, up to forty of them. */
    private static void undoneLog() {
        for (int years = 58; years <= 104; years++) {
            ScrapedSkin x = fadingNineYears();
            age(x, years);
            for (int undone = 1; undone <= 40; undone++) {
                x.undo();
                int left = years - undone;
                int told = Math.min(60, left);
                if (undone == 1 || undone >= 39) {
                    Checks.same(undone + " of " + years + " undone: rows", x.count(9), told);
                    Checks.same(undone + " of " + years + " undone: the oldest", x.log(told - 1, 1),
                            Math.max(0, 8 - (left - told)));
                    Checks.same("none ahead of it", x.log(told, 1), -1);
                }
            }
            int left = years - 40;
            x.ages(2);
            Checks.same("others instead", x.count(9), Math.min(60, left + 2));
            Checks.same("the oldest of them", x.log(Math.min(60, left + 2) - 1, 1),
                    Math.max(0, 8 - Math.max(0, left + 2 - 60)));
        }
    }

    /** Promise 17: NONE: no such what; STATUS: of several the first; not UNDONE. */
    private static void statusStays() {
        Consumer<ScrapedSkin> past = x -> {
            skinThatAges(x, 999);
            x.write(9, 0, 0, 0);
            x.give(0);
            x.give(51);
            x.scrape(0, 9);
            x.scrape(0, 1);
            x.scrape(0, 1);
            x.scrape(0, 1);
            for (int i = 0; i < 7; i++) {
                x.write(0, 0, 0, 0);
            }
            for (int i = 0; i < 5; i++) {
                x.ages(1);
            }
        };
        int[] want = {1, 2, 3, 1, 5};
        for (int what = -1; what <= 5; what++) {
            int one = what;
            Edges.silent("status " + what, past, x -> x.status(one), what >= 0 && what < 5 ? want[what] : -1);
        }
        ScrapedSkin x = new ScrapedSkin();
        past.accept(x);
        for (int far : new int[] {Edges.MIN, Edges.MAX}) {
            Checks.same("status " + far, x.status(far), -1);
        }
        for (int i = 0; i < 10; i++) {
            x.undo();
        }
        x.image();
        x.back();
        Checks.tell(x, 0, "h");
        x.years(0, 1);
        x.noted(-1, 0, true);
        x.lost(0, 0, 0);
        for (int what = 0; what < 5; what++) {
            Checks.same("status " + what + " stays", x.status(what), want[what]);
        }
    }
}
