/** Promises 1, 5 to 7, 9, 11 to 19 and 39 to 41: acts, what they cost, what is refused, undone, logged and kept. */
public final class ActTest {
    public static void main(String[] args) {
        newObject();
        rulesAndHands();
        writeAllWays();
        writeRefused();
        scraping();
        fading();
        laws();
        giving();
        yearsBounds();
        drawsByHand();
        undoing();
        logging();
        images();
        newSkin();
        refusalsChangeNothing();
        Checks.end();
    }

    private static void newObject() {
        ScrapedSkin x = new ScrapedSkin();
        int[] counts = {0, 0, 0, 0, 0, -1, 0, 4, 0, 0, 0};
        for (int what = 0; what <= 10; what++) {
            Checks.same("count " + what + " of a new object", x.count(what), counts[what]);
        }
        Checks.same("no such count", x.count(11), -1000000);
        Checks.same("no such count below", x.count(-1), -1000000);
        for (int what = -1; what <= 5; what++) {
            Checks.same("status " + what, x.status(what), what < 0 || what > 4 ? -1 : 0);
            Checks.same("rule " + what, x.rule(what), -1);
            Checks.same("hand " + what, Checks.hand(x, 0, what), -77);
            Checks.same("most " + what, x.most(what), -1);
        }
        Checks.same("image", x.image(), -1);
        Checks.same("back", x.back(), -1);
        Checks.same("best", x.best(0), -1);
        Checks.same("game", x.game(0, 0, 0, 0), -1000000);
        Checks.same("rests", x.rests(0, -1), -1);
        Checks.same("shows", x.shows(0), -1);
    }

    private static void rulesAndHands() {
        ScrapedSkin x = Checks.skin("h; sw8r5l9k99; hf0i9", "a");
        int[] rules = {8, 5, 9, 99};
        for (int what = 0; what < 4; what++) {
            Checks.same("rule " + what, x.rule(what), rules[what]);
        }
        Checks.same("no such rule", x.rule(4), -1);
        Checks.same("no such rule below", x.rule(-1), -1);
        Checks.same("usual ink", Checks.hand(x, 0, 0), 6);
        Checks.same("usual fading", Checks.hand(x, 0, 1), 1);
        Checks.same("ink", Checks.hand(x, 1, 0), 9);
        Checks.same("fading", Checks.hand(x, 1, 1), 0);
        x.write(0, 1, 3, 0);
        x.write(0, 1, 3, 0);
        Checks.same("layers", Checks.hand(x, 1, 2), 2);
        Checks.same("strength", Checks.hand(x, 1, 3), 18);
        Checks.same("no layers", Checks.hand(x, 0, 2), 0);
        int[][] wrong = {{2, 0}, {-1, 0}, {0, 4}, {0, -1}, {Integer.MAX_VALUE, 1}, {1, Integer.MIN_VALUE}};
        for (int[] one : wrong) {
            Checks.same("no such hand or what", Checks.hand(x, one[0], one[1]), -77);
        }
        ScrapedSkin usual = Checks.skin("h");
        int[] usualRules = {6, 4, 3, 20};
        for (int what = 0; what < 4; what++) {
            Checks.same("usual rule " + what, usual.rule(what), usualRules[what]);
        }
    }

    /** Where the letters of ab.c/d lie, by each way from the cell 9 of 5 times 4. */
    private static void writeAllWays() {
        int[][] cells = {{5, 6, 8, 10}, {1, 6, 16, 0}, {19, 18, 16, 14}, {15, 10, 0, 16}};
        int[] starts = {5, 1, 19, 15};
        for (int way = 0; way < 4; way++) {
            ScrapedSkin x = Checks.skin("sw5r4k5;h", "ab.c/d");
            Checks.same("written by way " + way, x.write(0, 0, starts[way], way), 4);
            Checks.same("coins", x.rule(3), 3);
            for (int cell = 0; cell < 20; cell++) {
                int want = 26;
                for (int letter = 0; letter < 4; letter++) {
                    want = cells[way][letter] == cell ? letter : want;
                }
                Checks.same("way " + way + " cell " + cell, x.shows(cell), want);
            }
        }
    }

    private static void writeRefused() {
        ScrapedSkin x = Checks.skin("sw4r2k7;h;hi9", "a", "ab/c");
        int[][] wrong = {
            {2, 0, 0, 0, 0}, {-1, 0, 0, 0, 0}, {0, 2, 0, 0, 0}, {0, -1, 0, 0, 0}, {9, 9, 99, 9, 0},
            {0, 0, 8, 0, 1}, {0, 0, -1, 0, 1}, {0, 0, 0, 4, 1}, {0, 0, 0, -1, 1}, {1, 0, 3, 0, 1}, {1, 0, 4, 0, 1},
            {1, 0, 0, 1, 1}, {0, 0, 1 << 30, 0, 1}, {0, 0, Integer.MIN_VALUE, 3, 1},
        };
        int[] told = new int[5];
        for (int[] one : wrong) {
            Checks.same("refused", x.write(one[0], one[1], one[2], one[3]), -1);
            told[one[4]]++;
            for (int kind = 0; kind < 5; kind++) {
                Checks.same("status " + kind, x.status(kind), told[kind]);
            }
        }
        for (int i = 1; i <= 6; i++) {
            Checks.same("layer on layer", x.write(0, i % 2, 5, 2), i);
        }
        Checks.same("two coins are too few", x.write(1, 0, 0, 0), -1);
        Checks.same("six layers", x.write(0, 0, 5, 0), -1);
        Checks.same("status 3", x.status(3), 2);
        Checks.same("one coin left", x.rule(3), 1);
        Checks.same("the lowest", x.layer(5, 0, 2), 9);
        Checks.same("the uppermost", x.layer(5, 5, 2), 6);
        Checks.same("its hand", x.layer(5, 5, 1), 0);
        Checks.same("no seventh", x.layer(5, 6, 0), -1);
        Checks.same("no such what", x.layer(5, 0, 3), -1);
        Checks.same("no such what below", x.layer(5, 0, -1), -1);
        Checks.same("no such cell", x.layer(8, 0, 0), -1);
        Checks.same("none below", x.layer(5, -1, 0), -1);
        Checks.same("a free sign needs no room", Checks.tell(x, 2, ".a"), 2);
        Checks.same("so it is written", x.write(2, 0, 5, 0), 7);
        Checks.same("no coin", x.write(0, 0, 0, 0), -1);
        Checks.same("status 3 again", x.status(3), 3);
    }

    private static void scraping() {
        ScrapedSkin x = Checks.skin("sw3r2k6;hi4;hi7", "ab", "c");
        Checks.same("no layer", x.scrape(0, 1), -1);
        Checks.same("status 2", x.status(2), 1);
        int[][] wrong = {{2, 1}, {-1, 1}, {0, 0}, {0, 10}, {0, -1}};
        for (int[] one : wrong) {
            Checks.same("out of bounds", x.scrape(one[0], one[1]), -1);
        }
        Checks.same("status 1", x.status(1), 5);
        x.write(0, 0, 0, 0);
        x.write(1, 1, 0, 0);
        x.write(1, 1, 3, 0);
        Checks.same("by 9: the c of 7 and 2 of the a of 4, and all of b", x.scrape(0, 9), 2);
        Checks.same("what is left of a", x.layer(0, 0, 2), 2);
        Checks.same("the row below is not scraped", x.layer(3, 0, 2), 7);
        Checks.same("just what is left", x.scrape(0, 2), 1);
        Checks.same("coins", x.rule(3), 1);
        Checks.same("one less", x.scrape(1, 6), 0);
        Checks.same("left", x.layer(3, 0, 2), 1);
        Checks.same("no coin", x.scrape(1, 1), -1);
        Checks.same("status 3", x.status(3), 1);
        Checks.same("nothing there, before no coin", x.scrape(0, 1), -1);
        Checks.same("status 2", x.status(2), 2);
    }

    private static void fading() {
        ScrapedSkin x = Checks.skin("sw3r2;hi5f2;hi9f0", "ab", "c");
        int[] wrong = {0, -1, 31};
        for (int n : wrong) {
            Checks.same("out of bounds", x.ages(n), -1);
        }
        Checks.same("status 1", x.status(1), 3);
        x.write(0, 0, 0, 0);
        x.write(1, 1, 0, 0);
        Checks.same("a year", x.ages(1), 1);
        Checks.same("a faded by 2", x.layer(0, 0, 2), 3);
        Checks.same("c not", x.layer(0, 1, 2), 9);
        Checks.same("strength", x.log(0, 1), 3 + 9 + 3);
        Checks.same("shown", x.log(0, 2), 2);
        Checks.same("two more", x.ages(2), 3);
        Checks.same("gone in the latest", x.log(0, 0), 2);
        Checks.same("gone ahead of it", x.log(1, 0), 0);
        Checks.same("c lies lowest", x.layer(0, 0, 0), 2);
        for (int i = 0; i < 33; i++) {
            x.ages(30);
        }
        Checks.same("the year", x.count(6), 993);
        Checks.same("beyond the last", x.ages(7), -1);
        Checks.same("status 4", x.status(4), 1);
        Checks.same("bounds go ahead", x.ages(31), -1);
        Checks.same("status 4 as before", x.status(4), 1);
        Checks.same("years beyond", x.years(7, 1), -1);
        Checks.same("the last", x.ages(6), 999);
        Checks.same("none more", x.ages(1), -1);
        Checks.same("status 4 then", x.status(4), 2);
    }

    /** What is left of a layer of 9 behind a year by this law. */
    private static int left(String law) {
        ScrapedSkin x = Checks.skin("sw3r3;hi9f4;hi9f0", "a", "b");
        Checks.tell(x, 1, law);
        x.law(0);
        x.write(0, 0, 6, 0);
        x.write(1, 1, 6, 0);
        x.ages(1);
        return x.layer(6, 0, 0) == 0 ? x.layer(6, 0, 2) : 0;
    }

    private static void laws() {
        Object[][] all = {
            {"y:3", 6}, {"y:9", 0}, {"y:8", 1}, {"y:99", 0}, {"y:1-2", 9}, {"y:d", 8}, {"y:f", 5}, {"y:i-4", 4},
            {"y:r", 7}, {"y:y", 9}, {"y:s-3", 3}, {"y:7/2", 6}, {"y:[1-8]/2+5", 7}, {"y:5/0+1", 8}, {"y:2+3*2", 1},
            {"y:[2+3]*1", 4}, {"y:9-4-3", 7}, {"y:8/2/2", 7}, {"y:9999*9999/9999-95", 4}, {"y:0-9999*9999+9999*100+105", 4},
            {"y:9999*100+9999-9999*100-1", 0}, {"y:s=8?1", 9}, {"y:s=9?1", 8}, {"y:s<9?1;y:2", 7},
            {"y:s>8?1;y:2", 8}, {"y:1;y:2", 8}, {"y:!s=9?1;y:2", 7}, {"y:!(s=9&d=0)?1;y:2", 8},
            {"y:s=9|d=5&f=7?1;y:2", 8}, {"y:(s=9|d=5)&f=7?1;y:2", 7}, {"y:!!s=9?1;y:2", 8}, {"y: s = 9 ? 1 + 2", 6},
        };
        for (Object[] one : all) {
            String law = (String) one[0];
            Checks.same("left by " + law, left(law), (Integer) one[1]);
        }
        Checks.same("as deep as can be",
                left("y:s=0|s=9&(s=0|s=9&(s=0|s=9&(1=1+1*[0+1*[0+1*[0+0]]])))?1;y:2"), 8);
        Checks.same("as long as can be", left("y:" + "0+".repeat(118) + "04"), 5);
        Checks.same("as many clauses as can be", left("y:s<1?9;".repeat(29) + "y:6;y:7"), 9 - 6);
        ScrapedSkin x = Checks.skin("sw3r3;hi9f4", "a");
        Checks.tell(x, 1, "y:y=99?9;y:y=1?2");
        x.law(0);
        x.ages(1);
        x.write(0, 0, 0, 0);
        x.ages(1);
        Checks.same("the year as it began", x.layer(0, 0, 2), 7);
        for (int i = 0; i < 6; i++) {
            x.ages(16);
        }
        x.ages(1);
        Checks.same("99 is still to come", x.layer(0, 0, 2), 7);
        x.ages(1);
        Checks.same("in the 99th it goes", x.layer(0, 0, 2), -1);
        x.write(0, 0, 0, 0);
        x.ages(2);
        Checks.same("101 is as 1", x.layer(0, 0, 2), 7);
        x.law(-1);
        x.ages(1);
        Checks.same("by its hand again", x.layer(0, 0, 2), 3);
    }

    private static void giving() {
        ScrapedSkin x = Checks.skin("sk99;h");
        int[] wrong = {0, -1, 51, Integer.MAX_VALUE, Integer.MIN_VALUE};
        for (int n : wrong) {
            Checks.same("out of bounds", x.give(n), -1);
        }
        Checks.same("one", x.give(1), 100);
        for (int i = 1; i <= 17; i++) {
            Checks.same("fifty", x.give(50), 100 + 50 * i);
        }
        Checks.same("above 999", x.give(50), -1);
        Checks.same("just 999", x.give(49), 999);
        Checks.same("above", x.give(1), -1);
        Checks.same("status 1", x.status(1), 7);
        ScrapedSkin none = new ScrapedSkin();
        none.give(0);
        none.ages(0);
        none.scrape(9, 99);
        none.write(0, 0, 0, 0);
        Checks.same("no skin goes ahead", none.status(0), 4);
    }

    private static void yearsBounds() {
        ScrapedSkin x = Checks.skin("h", "a");
        int[] wrong = {0, -1, 31, Integer.MAX_VALUE};
        for (int n : wrong) {
            Checks.same("out of bounds", x.years(n, 5), -1);
        }
        Checks.same("no skin", new ScrapedSkin().years(1, 5), -1);
        for (int kind = 0; kind < 5; kind++) {
            Checks.same("no status " + kind, x.status(kind), 0);
        }
        Checks.same("thirty", x.years(30, 5), 30);
        Checks.same("each is an act", x.count(10), 30);
        Checks.same("each is logged", x.count(9), 30);
        Checks.same("for nothing", x.rule(3), 20);
        Checks.same("scribes as they are", x.scribes(4), false);
        Checks.same("scribes beyond", x.scribes(10), false);
        Checks.same("scribes below", x.scribes(-1), false);
        Checks.same("scribes", x.scribes(0), true);
        Checks.same("scribes told", x.count(7), 0);
    }

    /** The draws reckoned here once more: a scribe always at work, ink that never fades, one row. */
    private static void drawsByHand() {
        for (long seed = -3; seed <= 40; seed++) {
            ScrapedSkin x = Checks.skin("sw8r1l1;hi2f0;hi3f0", "a", "b", "cd");
            x.scribes(9);
            x.years(1, seed);
            long[] state = {seed};
            int scribe = draw(state, 10);
            int cell = -1;
            int letter = -1;
            int hand = -1;
            boolean does = false;
            if (scribe < 9) {
                int writing = draw(state, 3);
                hand = draw(state, 2);
                cell = draw(state, 8);
                int way = draw(state, 4);
                letter = writing == 2 ? 2 : writing;
                does = writing < 2 || way == 0 && cell < 7 || way == 2 && cell > 0;
            }
            boolean scraped = draw(state, 10) < 3;
            if (scraped) {
                draw(state, 1);
            }
            int strength = !does ? 0 : 2 + hand - (scraped ? 2 : 0);
            if (cell >= 0) {
                Checks.same("seed " + seed, x.shows(cell), strength > 0 ? letter : 26);
                Checks.same("strength by seed " + seed, x.layer(cell, 0, 2), strength > 0 ? strength : -1);
            } else {
                Checks.same("nothing by seed " + seed, x.most(0), 0);
            }
            x.undo();
            Checks.same("the whole year is undone", x.most(0) + x.count(6) + x.count(9), 0);
        }
    }

    private static int draw(long[] state, int j) {
        state[0] = state[0] * 6364136223846793005L + 1442695040888963407L;
        return (int) ((state[0] >>> 33) % j);
    }

    private static void undoing() {
        ScrapedSkin x = Checks.skin("sw3r2;hi5f2", "ab");
        Checks.same("none", x.undo(), -1);
        x.write(0, 0, 0, 0);
        x.scrape(0, 1);
        x.ages(2);
        x.give(7);
        Checks.same("acts", x.count(10), 5);
        x.write(0, 0, 2, 0);
        Checks.same("a refused one is none", x.count(10), 5);
        Checks.same("coins back", x.undo(), 4);
        Checks.same("coins", x.rule(3), 18);
        Checks.same("a year back", x.undo(), 3);
        Checks.same("the year", x.count(6), 1);
        Checks.same("log", x.count(9), 1);
        Checks.same("strength", x.layer(0, 0, 2), 2);
        Checks.same("another back", x.undo(), 2);
        Checks.same("scraping back", x.undo(), 1);
        Checks.same("strength of old", x.layer(0, 0, 2), 5);
        Checks.same("coins of old", x.rule(3), 19);
        Checks.same("writing back", x.undo(), 0);
        Checks.same("blank", x.most(0), 0);
        Checks.same("coins at first", x.rule(3), 20);
        Checks.same("none more", x.undo(), -1);
        Checks.same("status stays", x.status(1), 1);
        for (int i = 0; i < 45; i++) {
            x.give(1);
        }
        Checks.same("forty", x.count(10), 40);
        for (int i = 39; i >= 0; i--) {
            Checks.same("still", x.undo(), i);
        }
        Checks.same("no more than forty", x.undo(), -1);
        Checks.same("five stay", x.rule(3), 25);
    }

    private static void logging() {
        ScrapedSkin x = Checks.skin("sw8r5k99;hi9f0", "a");
        for (int i = 0; i < 70; i++) {
            x.give(1);
            if (i % 2 == 0 && i < 60) {
                x.write(0, 0, i / 2, 0);
            }
            x.ages(1);
        }
        Checks.same("sixty", x.count(9), 60);
        Checks.same("the latest", x.log(0, 1), 270);
        Checks.same("the sixtieth", x.log(59, 1), 54);
        Checks.same("no such one", x.log(60, 0), -1);
        Checks.same("no such one below", x.log(-1, 0), -1);
        Checks.same("no such what", x.log(0, 3), -1);
        Checks.same("no such what below", x.log(0, -1), -1);
        for (int i = 0; i < 10; i++) {
            x.undo();
        }
        Checks.same("acts of two sorts were undone", x.count(6), 65);
        Checks.same("sixty still", x.count(9), 60);
        Checks.same("the sixtieth came to light again", x.log(59, 1), 27);
        ScrapedSkin y = Checks.skin("sw8r5k99;hi9f0", "a");
        for (int i = 0; i < 120; i++) {
            y.ages(1);
            if (i == 25) {
                y.write(0, 0, 0, 0);
            }
        }
        for (int i = 0; i < 40; i++) {
            y.undo();
        }
        Checks.same("eighty years, sixty told", y.count(9), 60);
        Checks.same("the 26th year, told as the 55th", y.log(54, 1), 0);
        Checks.same("the 27th year", y.log(53, 1), 9);
        Checks.same("the 21st year", y.log(59, 2), 0);
    }

    private static void images() {
        ScrapedSkin x = Checks.skin("sw3r2;hi5f1", "ab");
        Checks.same("no image", x.back(), -1);
        x.write(0, 0, 0, 0);
        x.ages(2);
        Checks.same("image", x.image(), 2);
        Checks.same("acts stay", x.count(10), 3);
        x.noted(0, 0, true);
        x.scrape(0, 9);
        for (int i = 0; i < 5; i++) {
            x.ages(30);
        }
        x.give(50);
        Checks.same("back", x.back(), 2);
        Checks.same("layers", x.layer(0, 0, 2), 3);
        Checks.same("coins", x.rule(3), 19);
        Checks.same("log", x.count(9), 2);
        Checks.same("log strength", x.log(0, 1), 6);
        Checks.same("log strength ahead", x.log(1, 1), 8);
        Checks.same("no act can be undone", x.undo(), -1);
        Checks.same("noted stays", x.count(8), 1);
        x.ages(1);
        Checks.same("back again", x.back(), 2);
        x.ages(1);
        Checks.same("another image instead", x.image(), 3);
        x.ages(1);
        Checks.same("back to that", x.back(), 3);
        Checks.tell(x, 0, "h");
        Checks.same("none of this skin", x.back(), -1);
    }

    private static void newSkin() {
        ScrapedSkin x = Checks.skin("sw3r2k9;hi5f1;h", "ab");
        Checks.tell(x, 1, "y:1");
        x.law(0);
        x.scribes(7);
        x.write(0, 0, 0, 0);
        x.ages(3);
        x.noted(0, 0, true);
        x.scrape(5, 5);
        Checks.same("cells", Checks.tell(x, 0, "sw2r5k3;hi1"), 10);
        int[] counts = {10, 1, 1, 1, 0, 0, 0, 7, 0, 0, 0};
        for (int what = 0; what <= 10; what++) {
            Checks.same("count " + what + " of the new skin", x.count(what), counts[what]);
        }
        Checks.same("blank", x.most(6), 10);
        Checks.same("coins", x.rule(3), 3);
        Checks.same("status stays", x.status(1), 1);
        Checks.same("nothing to undo", x.undo(), -1);
        Checks.same("a fault leaves it", Checks.tell(x, 0, "sw9"), -1);
        Checks.same("as it was", x.count(0), 10);
    }

    /** What can be seen from outside of twelve cells, in one text. */
    private static String seen(ScrapedSkin x) {
        StringBuilder all = new StringBuilder();
        for (int i = 0; i <= 10; i++) {
            all.append(x.count(i)).append(' ').append(x.rule(i)).append(' ').append(x.most(i)).append(' ');
            all.append(Checks.hand(x, i, 2)).append(' ').append(x.fits(i)).append(' ').append(x.log(i, 1)).append(' ');
        }
        for (int cell = 0; cell < 12; cell++) {
            for (int i = 0; i < 2; i++) {
                all.append(x.layer(cell, i, 0)).append(x.layer(cell, i, 1)).append(x.layer(cell, i, 2)).append(',');
            }
        }
        return all.toString();
    }

    private static void refusalsChangeNothing() {
        ScrapedSkin x = Checks.skin("sw4r3k3;hi5f1;hi9", "ab/c", "d");
        x.write(0, 0, 0, 0);
        x.ages(2);
        x.noted(0, 0, true);
        Checks.feed(x, "s1");
        String before = seen(x);
        x.write(0, 0, 0, 0);
        x.write(9, 0, 0, 0);
        x.write(0, 9, 0, 0);
        x.write(0, 0, 99, 0);
        x.write(0, 0, 11, 0);
        x.scrape(3, 1);
        x.scrape(2, 1);
        x.scrape(0, 0);
        x.ages(0);
        x.ages(31);
        x.give(0);
        x.give(51);
        x.years(0, 1);
        x.years(31, 1);
        x.text(0);
        x.text(1);
        x.text(2);
        x.text(7);
        x.end(3);
        x.law(0);
        x.scribes(4);
        x.noted(99, 0, true);
        x.noted(0, 26, true);
        x.back();
        x.feed(0, 0, 0, 0, 0);
        Checks.holds("nothing but status has changed", before.equals(seen(x)));
        Checks.same("status 0", x.status(0), 2);
        Checks.same("status 1", x.status(1), 8);
        Checks.same("status 2", x.status(2), 1);
        Checks.same("status 3", x.status(3), 1);
        Checks.same("status 4", x.status(4), 0);
        x.may(0, -1);
        x.lost(0, 0, 1);
        x.faded(0, 0, 1);
        x.order(0);
        x.ask();
        x.quire(0);
        x.game(0, 3, 2, 0);
        x.rests(0, -1);
        x.odds(0, 0, 50, 1);
        x.image();
        x.fault(0);
        x.fault(1);
        x.fault(2);
        Checks.holds("what is asked apart changes nothing", before.equals(seen(x)));
    }
}
