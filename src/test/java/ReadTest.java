import java.util.ArrayList;
import java.util.List;

/** Promises 20 to 38: what shows, what may stand, what is lost, fits, meets, rests, is misread and is most. */
public final class ReadTest {
    private static final int MIN = Integer.MIN_VALUE;
    private static final int MAX = Integer.MAX_VALUE;

    public static void main(String[] args) {
        showsAndLamp();
        agreesMayBest();
        overAndOrder();
        lost();
        faded();
        notedFitsAsk();
        meetsAndQuire();
        gameAndRests();
        odds();
        sharesAndMost();
        Checks.end();
    }

    private static void showsAndLamp() {
        ScrapedSkin x = Checks.skin("sw3r1l4k50;hi4f0;hi3f0;hi9f0", "a", "b", "c");
        Checks.same("nothing shows", x.shows(0), 26);
        Checks.same("no lamp", x.lamp(0), 26);
        x.write(1, 1, 0, 0);
        Checks.same("too weak", x.shows(0), 26);
        Checks.same("too weak for the lamp", x.lamp(0), 26);
        x.write(0, 0, 0, 0);
        Checks.same("just legible", x.shows(0), 0);
        Checks.same("the lowest legible", x.lamp(0), 0);
        x.write(2, 2, 0, 0);
        Checks.same("the uppermost", x.shows(0), 2);
        Checks.same("the lamp brings a up", x.lamp(0), 0);
        x.write(1, 1, 0, 0);
        Checks.same("the uppermost is not legible", x.shows(0), 26);
        Checks.same("the lamp still", x.lamp(0), 0);
        int[] wrong = {-1, 3, MIN, MAX};
        for (int cell : wrong) {
            Checks.same("no such cell", x.shows(cell), -1);
            Checks.same("no such cell for the lamp", x.lamp(cell), -1);
        }
    }

    private static void agreesMayBest() {
        ScrapedSkin x = Checks.skin("sw4r1k50;h;hi2", "ab", "a.b", "abcd", "c");
        Checks.same("nowhere", x.best(0), -1);
        Checks.same("no places", x.may(0, -1), 0);
        x.write(0, 0, 0, 0);
        x.write(3, 1, 1, 0);
        x.write(3, 0, 3, 0);
        // a, b beneath a weak c, nothing, c
        int[][] told = {{0, 0, 2, 0, 0}, {0, 4, 0, 1, 1}, {0, 8, 0, 1, 1}, {0, 6, 0, 0, 2}, {1, 0, 1, 1, 0},
            {2, 0, 2, 1, 1}, {1, 4, 0, 0, 2}, {3, 4, 0, 0, 1}, {3, 15, 1, 0, 0}};
        for (int[] one : told) {
            for (int what = 0; what < 3; what++) {
                Checks.same("agrees(" + one[0] + ", " + one[1] + ", " + what + ")",
                        x.agrees(one[0], one[1], what), one[2 + what]);
            }
        }
        int[][] wrong = {{4, 0, 0}, {-1, 0, 0}, {0, 12, 0}, {0, 1, 0}, {0, 2, 0}, {0, 16, 0}, {0, -1, 0},
            {0, 0, 3}, {0, 0, -1}, {0, MAX, 0}, {0, MIN, 0}};
        for (int[] one : wrong) {
            Checks.same("agrees refused", x.agrees(one[0], one[1], one[2]), -1);
        }
        Checks.same("ab may stand there, and leftwards with its a gone", x.may(0, -1), 2);
        Checks.same("at 0", x.may(0, 0), 0);
        Checks.same("from cell 2", x.may(0, 1), 10);
        Checks.same("no third", x.may(0, 2), -1);
        Checks.same("no such i", x.may(0, -2), -1);
        Checks.same("no such writing", x.may(4, -1), -1);
        Checks.same("c at each way of cell 3", x.may(3, -1), 4);
        Checks.same("the last", x.may(3, 3), 15);
        Checks.same("best is the lowest", x.best(3), 12);
        Checks.same("best of no such writing", x.best(4), -1);
        Checks.same("best below", x.best(-1), -1);
        ScrapedSkin y = Checks.skin("sw5r1k50;h", "ab", "a", "b");
        y.write(1, 0, 0, 0);
        y.write(0, 0, 3, 0);
        Checks.same("three places", y.may(0, -1), 3);
        Checks.same("one letter agrees at first", y.may(0, 0), 0);
        Checks.same("more agree later", y.best(0), 12);
    }

    private static void overAndOrder() {
        ScrapedSkin x = Checks.skin("sw2r1k50;h;h;h", "a");
        Checks.same("none over", x.over(0, 1), 0);
        Checks.same("the least row", x.order(0), 12);
        // Cell 0 from below: 2 0 2 1; cell 1: 1 2
        int[][] written = {{2, 0}, {0, 0}, {2, 0}, {1, 0}, {1, 1}, {2, 1}};
        for (int[] one : written) {
            x.write(0, one[0], one[1], 0);
        }
        int[][] over = {{0, 0, 1}, {1, 0, 2}, {1, 1, 1}};
        for (int one = 0; one < 3; one++) {
            for (int other = 0; other < 3; other++) {
                Checks.same("over(" + one + ", " + other + ")", x.over(one, other), over[one][other]);
            }
        }
        // 0 2 1 lies otherwise by 0 over 2 (1) and 2 over 1 (1); 2 0 1 likewise by 2 over 0 and 2 over 1
        Checks.same("order", x.order(0), 21);
        Checks.same("otherwise", x.order(1), 2);
        Checks.same("no such what", x.order(2), -1);
        Checks.same("no such what below", x.order(-1), -1);
        int[][] wrong = {{3, 0}, {0, 3}, {-1, 0}, {0, -1}, {MAX, MIN}};
        for (int[] one : wrong) {
            Checks.same("no such hands", x.over(one[0], one[1]), -1);
        }
        ScrapedSkin y = Checks.skin("sw2r1k50;h;h;h;h", "a");
        for (int hand = 3; hand >= 0; hand--) {
            y.write(0, hand, 0, 0);
        }
        Checks.same("the other way round", y.order(0), 3210);
        Checks.same("none otherwise", y.order(1), 0);
        ScrapedSkin one = Checks.skin("h", "a");
        one.write(0, 0, 0, 0);
        one.write(0, 0, 0, 0);
        Checks.same("one hand", one.order(0), 0);
        Checks.same("its own pairs do not count", one.order(1), 0);
    }

    private static void lost() {
        ScrapedSkin x = Checks.skin("sw4r2k50;hi5f0;hi9f0;hi2f0", "ab/cd", "x", "a");
        x.write(0, 0, 0, 0);
        x.write(1, 1, 0, 0);
        // above: a (5) beneath x (9), b (5); below: c, d (5); legible from 3: a needs 12, all others 3
        int[] least = {15, 6, 3, 3, 0};
        for (int v = 1; v <= 5; v++) {
            Checks.same("lost for " + v, x.lost(0, 0, v), least[v - 1]);
        }
        Checks.same("for 16", x.lost(0, 0, 16), 0);
        x.write(2, 1, 0, 0);
        Checks.same("a lies there twice: the lower one holds", x.lost(0, 0, 1), 9 + 9 + 3 + 3);
        x.write(2, 2, 1, 0);
        Checks.same("what is not legible is in the way, too", x.lost(0, 0, 2), 3 + 5);
        Checks.same("nothing agrees", x.lost(1, 4, 1), 0);
        ScrapedSkin all = Checks.skin("sw8r2l9;hi9", "abcdefgh/ijklmnop");
        all.write(0, 0, 0, 0);
        Checks.same("sixteen letters, all lost", all.lost(0, 0, 1), 2);
        Checks.same("eight of sixteen", all.lost(0, 0, 9), 1);
        Checks.same("one of sixteen", all.lost(0, 0, 16), 1);
        int[][] wrong = {{3, 0, 1}, {-1, 0, 1}, {0, 12, 1}, {0, -1, 1}, {0, 32, 1}, {0, 0, 0}, {0, 0, 17}, {0, 0, -1}};
        for (int[] one : wrong) {
            Checks.same("lost refused", x.lost(one[0], one[1], one[2]), -1);
        }
    }

    private static void faded() {
        ScrapedSkin x = Checks.skin("sw4r2k50;hi9f2;hi9f0", "ab", "c");
        x.write(0, 0, 0, 0);
        x.write(1, 1, 4, 0);
        Checks.same("9 7 5 3 1", x.faded(0, 0, 1), 4);
        Checks.same("already", x.faded(0, 0, 3), 0);
        Checks.same("never", x.faded(1, 16, 1), -1);
        int[][] wrong = {{2, 0, 1}, {-1, 0, 1}, {0, 12, 1}, {0, -1, 1}, {0, 0, 0}, {0, 0, 17}};
        for (int[] one : wrong) {
            Checks.same("faded refused", x.faded(one[0], one[1], one[2]), -1);
        }
        Checks.tell(x, 1, "y:y=97?9");
        x.law(0);
        Checks.same("in the year 97, behind it", x.faded(1, 16, 1), 98);
        Checks.same("the skin is as it was", x.layer(4, 0, 2), 9);
        Checks.tell(x, 1, "y:y=99?9");
        x.law(1);
        Checks.same("not within 99", x.faded(1, 16, 1), -1);
        x.ages(1);
        Checks.same("now within", x.faded(1, 16, 1), 99);
        Checks.tell(x, 1, "y:y=5?9");
        x.law(2);
        Checks.tell(x, 0, "sw4r2k50;hi9f2;hi9f0");
        for (int i = 0; i < 33; i++) {
            x.ages(30);
        }
        x.write(1, 1, 4, 0);
        Checks.same("years go on behind 999: 990 to 1005", x.faded(1, 16, 1), 16);
    }

    private static void notedFitsAsk() {
        ScrapedSkin x = Checks.skin("sw3r2k50;h", "ab", "b.a");
        Checks.same("all places: ab by two rows of two, both ways, and three columns", x.fits(-1), 8 + 6 + 4);
        Checks.same("the first", x.fits(0), 0);
        Checks.same("the last", x.fits(17), 1022);
        Checks.same("no such one", x.fits(18), -1);
        Checks.same("no such one below", x.fits(-2), -1);
        Checks.same("noted", x.noted(1, 1, true), 1);
        Checks.same("b in cell 1: ab right, left, up", x.fits(-1), 3);
        Checks.same("rightwards from 0", x.fits(0), 0);
        Checks.same("leftwards from 2", x.fits(1), 10);
        Checks.same("up from 4", x.fits(2), 19);
        Checks.same("cell 0 tells the first from the others, as all do", x.ask(), 0);
        Checks.same("noted that it was not", x.noted(0, 0, false), 2);
        Checks.same("two fit", x.fits(-1), 2);
        Checks.same("the cell to look at", x.ask(), 2);
        Checks.same("against it", x.noted(1, 1, false), 3);
        Checks.same("nothing fits", x.fits(-1), 0);
        Checks.same("nothing to ask", x.ask(), -1);
        int[][] wrong = {{-1, 0}, {6, 0}, {0, -1}, {0, 26}, {MAX, 0}, {0, MIN}};
        for (int[] one : wrong) {
            Checks.same("noted refused", x.noted(one[0], one[1], true), -1);
        }
        for (int i = 4; i <= 10; i++) {
            Checks.same("noted " + i, x.noted(5, 25, false), i);
        }
        Checks.same("an eleventh", x.noted(5, 25, false), -1);
        Checks.same("ten", x.count(8), 10);
        ScrapedSkin free = Checks.skin("sw3r1;h", "b.a");
        free.noted(1, 0, false);
        free.noted(1, 1, false);
        Checks.same("a sign left free tells no letter", free.fits(-1), 2);
        Checks.same("nothing of what was written matters", free.write(0, 0, 0, 0), 2);
        Checks.same("as before", free.fits(1), 10);
        Checks.same("no writing, none fits", Checks.skin("h").fits(-1), 0);
        Checks.same("no writing, nothing to ask", Checks.skin("h").ask(), -1);
        ScrapedSkin none = new ScrapedSkin();
        Checks.tell(none, 2, "a");
        Checks.same("no skin", none.fits(-1), -1);
        Checks.same("no skin to ask", none.ask(), -1);
        Checks.same("no skin to note", none.noted(0, 0, true), -1);
        Checks.same("no skin, nowhere it may", none.may(0, -1), -1);
        Checks.same("no skin, no best", none.best(0), -1);
    }

    private static void meetsAndQuire() {
        ScrapedSkin x = new ScrapedSkin();
        Checks.same("no writing", x.quire(0), -1);
        String[] writings = {"aab/zz", "ab", "b.", "..a", "ba/ab", "abaab"};
        for (String one : writings) {
            Checks.tell(x, 2, one);
        }
        int[][] meets = {
            {3, 2, 1, 0, 1, 2}, {0, 2, 1, 0, 1, 2}, {0, 0, 2, 1, 0, 0},
            {1, 1, 0, 3, 0, 1}, {1, 1, 0, 0, 2, 1}, {3, 2, 1, 0, 1, 5},
        };
        for (int one = 0; one < 6; one++) {
            for (int other = 0; other < 6; other++) {
                Checks.same("meets(" + one + ", " + other + ")", x.meets(one, other), meets[one][other]);
            }
        }
        int[][] wrong = {{6, 0}, {0, 6}, {-1, 0}, {0, -1}};
        for (int[] one : wrong) {
            Checks.same("no such writings", x.meets(one[0], one[1]), -1);
        }
        // 4 1 5 0 2 3 gives 1 + 2 + 3 + 1 + 1
        Checks.same("how much", x.quire(1), 8);
        Checks.same("the row", x.quire(0), leastRow(meets));
        Checks.same("no such what", x.quire(2), -1);
        Checks.same("no such what below", x.quire(-1), -1);
        ScrapedSkin one = new ScrapedSkin();
        Checks.tell(one, 2, "aa");
        Checks.same("one alone", one.quire(0), 0);
        Checks.same("meets none", one.quire(1), 0);
        Checks.tell(one, 2, "ba");
        Checks.same("two, the second ahead", one.quire(0), 10);
        Checks.same("by one", one.quire(1), 1);
    }

    /** All numbers from 12345 to 543210 that are rows of these six, rising. */
    private static int leastRow(int[][] meets) {
        int most = -1;
        int best = -1;
        for (int row = 12345; row <= 543210; row++) {
            int seen = 0;
            int sum = 0;
            int behind = -1;
            for (int i = 0, rest = row; i < 6; i++, rest /= 10) {
                int digit = rest % 10;
                seen |= 1 << digit;
                sum += behind >= 0 && digit < 6 ? meets[digit][behind] : 0;
                behind = Math.min(digit, 5);
            }
            if (seen == 63 && sum > most) {
                most = sum;
                best = row;
            }
        }
        return best;
    }

    private static void gameAndRests() {
        ScrapedSkin x = Checks.skin("sw3r2k50;hi4f0;hi5f0", "a", "b", "c");
        x.write(0, 0, 0, 0);
        x.write(1, 1, 0, 0);
        x.write(2, 1, 1, 0);
        // row 0: a (4) beneath b (5); c (5); nothing. Behind 3: a alone can be read
        int[] scraper = {0, -1, -2, 4 - 3};
        int[][] reader = {{2, 1, 1}, {2, 1, 1}, {2, 1, 1}, {0, 0, 1}};
        for (int gx = 0; gx < 4; gx++) {
            for (int y = 0; y < 3; y++) {
                Checks.same("scraper " + gx + " " + y, x.game(0, gx, y, 0), scraper[gx]);
                Checks.same("reader " + gx + " " + y, x.game(0, gx, y, 1), reader[gx][y]);
            }
        }
        Checks.same("one rest", x.rests(0, -1), 1);
        Checks.same("at 3 and 2", x.rests(0, 0), 32);
        Checks.same("no such rest", x.rests(0, 1), -1);
        Checks.same("no such rest below", x.rests(0, -2), -1);
        Checks.same("the blank row rests", x.rests(1, -1), 1);
        Checks.same("at 0 and 0", x.rests(1, 0), 0);
        int[][] wrong = {{2, 0, 0, 0}, {-1, 0, 0, 0}, {0, 4, 0, 0}, {0, -1, 0, 0}, {0, 0, 3, 0}, {0, 0, -1, 0},
            {0, 0, 0, 2}, {0, 0, 0, -1}};
        for (int[] one : wrong) {
            Checks.same("game refused", x.game(one[0], one[1], one[2], one[3]), -1000000);
        }
        Checks.same("no such row", x.rests(2, -1), -1);
        Checks.same("no such row below", x.rests(-1, -1), -1);
        Checks.same("the skin is as it was", x.most(1), 14);
        ScrapedSkin even = Checks.skin("sw2r1k50;hi4f0;hi3f0", "a", "b");
        even.write(0, 0, 0, 0);
        even.write(1, 1, 0, 0);
        // a (4) beneath b (3): scraped by 1 b is gone from sight: 2 - 1; looking beneath: 3 - 2, on top 1 or 0
        Checks.same("one rest alone", even.rests(0, -1), 1);
        Checks.same("the least scraping", even.rests(0, 0), 12);
    }

    private static void odds() {
        ScrapedSkin x = Checks.skin("sw8r2k50;h", "abcdefgh/abcdefgh", "abc");
        Checks.same("nothing agrees, none needed", x.odds(0, 0, 50, 0), 1000000000);
        Checks.same("nothing agrees, one needed", x.odds(0, 0, 50, 1), 0);
        x.write(0, 0, 0, 0);
        Checks.same("all of sixteen, none misread", x.odds(0, 0, 0, 16), 1000000000);
        Checks.same("all misread", x.odds(0, 0, 100, 1), 0);
        Checks.same("ten of each hundred, thrice", x.odds(1, 0, 10, 3), 729000000);
        Checks.same("two or more", x.odds(1, 0, 10, 2), 729000000 + 3 * 81000000);
        Checks.same("one or more", x.odds(1, 0, 10, 1), 1000000000 - 1000000);
        // The parts of 7 of 100: 70000000, of that 4900000, 343000, 24010, 1680 (cut), 117 (cut) ..
        long part = 1000000000L;
        for (int i = 0; i < 16; i++) {
            part = part * 7 / 100;
        }
        Checks.same("the parts are cut", x.odds(0, 0, 7, 1), 1000000000L - part);
        long right = 1000000000L;
        for (int i = 0; i < 16; i++) {
            right -= right * 33 / 100;
        }
        Checks.same("what is right is what is left", x.odds(0, 0, 33, 16), right);
        oddsOfEachPart(x);
        oddsOfWhatAgrees();
        int[][] wrong = {{2, 0, 0, 0}, {-1, 0, 0, 0}, {0, 4, 0, 0}, {0, -1, 0, 0}, {0, 0, -1, 0}, {0, 0, 101, 0},
            {0, 0, 0, -1}, {0, 0, 0, 17}};
        for (int[] one : wrong) {
            Checks.same("odds refused", x.odds(one[0], one[1], one[2], one[3]), -1);
        }
    }

    /** No two parts are joined, also not such in which as many letters are read rightly: each is cut for itself. */
    private static void oddsOfEachPart(ScrapedSkin sixteen) {
        ScrapedSkin five = fiveLetters();
        // Behind four letters nothing was cut yet: one part of 10 with none right, four parts of 990 with one right.
        // The fifth misreads none of the 10 (0.1, cut), so all 10 have one right; of each 990 it misreads 9 (9.9,
        // cut), so 4 * 9 stay with one right. Joined, it would have misread 39 of 3960.
        Checks.same("two or more of five", five.odds(0, 0, 1, 2), 1000000000 - 10 - 4 * 9);
        Checks.same("one or more of five", five.odds(0, 0, 1, 1), 1000000000);
        for (int chance = 0; chance <= 100; chance++) {
            five = fiveLetters();
            for (int v = 0; v <= 16; v++) {
                Checks.same("odds of five by " + chance + " for " + v, five.odds(0, 0, chance, v),
                        oddsByList(5, chance, v));
            }
        }
        for (int chance : new int[] {0, 1, 7, 33, 50, 67, 99, 100}) {
            for (int v = 0; v <= 16; v++) {
                Checks.same("odds of sixteen by " + chance + " for " + v, sixteen.odds(0, 0, chance, v),
                        oddsByList(16, chance, v));
            }
        }
    }

    private static ScrapedSkin fiveLetters() {
        ScrapedSkin x = Checks.skin("h", "abcde");
        x.write(0, 0, 0, 0);
        return x;
    }

    /** Every part on its own, each with how many letters are read rightly in it. */
    private static long oddsByList(int letters, int chance, int v) {
        List<long[]> parts = new ArrayList<>();
        parts.add(new long[] {1000000000L, 0});
        for (int i = 0; i < letters; i++) {
            List<long[]> then = new ArrayList<>();
            for (long[] part : parts) {
                long misread = part[0] * chance / 100;
                then.add(new long[] {misread, part[1]});
                then.add(new long[] {part[0] - misread, part[1] + 1});
            }
            parts = then;
        }
        long sum = 0;
        for (long[] part : parts) {
            sum += part[1] >= v ? part[0] : 0;
        }
        return sum;
    }

    /** Signs left free, letters that are gone and letters that are against it are neither read nor misread. */
    private static void oddsOfWhatAgrees() {
        ScrapedSkin x = Checks.skin("sw8r1;h", "ab.cd", "ab.z");
        x.write(1, 0, 0, 0);
        Checks.same("both that agree", x.odds(0, 0, 10, 2), 810000000);
        Checks.same("one of both", x.odds(0, 0, 10, 1), 990000000);
        Checks.same("no third one", x.odds(0, 0, 10, 3), 0);
    }

    private static void sharesAndMost() {
        ScrapedSkin x = Checks.skin("sw3r2k50;hi4f0;hi5f0;hi1f0", "a", "bc", "zz/zz");
        int[] blank = {0, 0, 0, 0, 0, -1, 6, 0, 0, 0};
        for (int what = 0; what < 10; what++) {
            Checks.same("most " + what + " of a blank skin", x.most(what), blank[what]);
        }
        Checks.same("no strength", x.shares(0, 999), 0);
        x.write(1, 0, 1, 0);
        x.write(0, 1, 4, 0);
        x.write(0, 1, 4, 0);
        x.write(0, 2, 2, 0);
        // cells: 1 b; 2 c beneath a weak a; 4 a over a
        int[] most = {5, 4 + 4 + 5 + 5 + 1, 2, 0, 0, 0, 3, 2, 1, 2};
        for (int what = 0; what < 10; what++) {
            Checks.same("most " + what, x.most(what), most[what]);
        }
        x.write(0, 1, 4, 0);
        x.write(2, 1, 1, 0);
        // cells: 1 b z; 2 c a z; 4 a a a z; 5 z
        int[] more = {10, 44, 4, 0, 1, 0, 2, 4, 3, 2};
        for (int what = 0; what < 10; what++) {
            Checks.same("most " + what + " then", x.most(what), more[what]);
        }
        Checks.same("no such what", x.most(10), -1);
        Checks.same("no such what below", x.most(-1), -1);
        Checks.same("share, cut", x.shares(0, 100), 100 * 8 / 44);
        Checks.same("share of 999", x.shares(1, 999), 999 * 35 / 44);
        Checks.same("share of none", x.shares(1, 0), 0);
        int[][] wrong = {{3, 1}, {-1, 1}, {0, -1}, {0, 1000}};
        for (int[] one : wrong) {
            Checks.same("shares refused", x.shares(one[0], one[1]), -1);
        }
    }
}
