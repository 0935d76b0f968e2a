import java.util.ArrayList;
import java.util.List;
import java.util.function.Consumer;
import java.util.function.ToLongFunction;

/** The boundaries of what is asked of a skin as it is: Terms 2 and 3, promises 20 to 38. */
public final class EdgeReadTest {
    private static final int NOTHING = 26;
    private static final int[] FAR = {Edges.MIN, Edges.MIN + 1, -1000000, -2, 1000000, 1 << 30, Edges.MAX - 1, Edges.MAX};

    public static void main(String[] args) {
        legibleIfThatMuchOrMore();
        uppermostAndLowest();
        noSuchCell();
        agreesGoneAgainst();
        agreesRefused();
        mayStand();
        mayRefused();
        bestOfSeveral();
        howFarEver();
        orderOfSeveral();
        lostByAmounts();
        lostByWhatHolds();
        lostByRows();
        lostRefused();
        fadedWithinNinetyNine();
        fadedRefused();
        tenNoted();
        fitting();
        fittingByWays();
        asking();
        meeting();
        quireOfSeveral();
        gameOfARow();
        gameRefused();
        severalRests();
        oddsAtTheEnds();
        sharesCut();
        mostOfSeveral();
        blankSkin();
        noSkin();
        farOffArguments();
        apart();
        Checks.end();
    }

    /** A LAYER is LEGIBLE, if its STRENGTH is that much or more. */
    private static void legibleIfThatMuchOrMore() {
        for (int legible = 1; legible <= 9; legible++) {
            for (int ink = 1; ink <= 9; ink++) {
                boolean is = ink >= legible;
                String what = "ink " + ink + ", legible from " + legible;
                ScrapedSkin x = Checks.skin("sw2r1l" + legible + ";hf0i" + ink, "z");
                x.write(0, 0, 1, 0);
                Checks.same("shows: " + what, x.shows(1), is ? 25 : NOTHING);
                Checks.same("lamp: " + what, x.lamp(1), is ? 25 : NOTHING);
                Checks.same("agrees: " + what, x.agrees(0, 4, 0), is ? 1 : 0);
                Checks.same("gone: " + what, x.agrees(0, 4, 1), is ? 0 : 1);
                Checks.same("against: " + what, x.agrees(0, 4, 2), 0);
                Checks.same("may: " + what, x.may(0, -1), is ? 4 : 0);
                Checks.same("best: " + what, x.best(0), is ? 4 : -1);
                Checks.same("lost: " + what, x.lost(0, 4, 1), is ? ink - legible + 1 : 0);
                Checks.same("shown: " + what, x.most(7), is ? 1 : 0);
                Checks.same("not beneath: " + what, x.most(8), 0);
                Checks.same("game by 1: " + what, x.game(0, 1, 0, 0), ink == legible ? 1 : -1);
            }
        }
    }

    /** Layers by inks from below, letter by letter, all in the cell 0 of two; legible from 5. */
    private static ScrapedSkin pile(String letters, int... inks) {
        ScrapedSkin x = Checks.skin("sw2r1l5k99;hf0i9;hf0i5;hf0i4;hf0i1");
        int[] hands = {0, 3, 3, 3, 2, 1, 1, 1, 1, 0};
        for (int i = 0; i < inks.length; i++) {
            Checks.tell(x, 2, "" + letters.charAt(i));
            x.write(i, hands[inks[i]], 0, 0);
            Checks.same("ink", x.layer(0, i, 2), inks[i]);
        }
        return x;
    }

    /** SHOWS: the uppermost, if it is LEGIBLE (else nothing). LAMP: the lowest that is LEGIBLE (none: nothing). */
    private static void uppermostAndLowest() {
        Object[][] all = {
            {"a", new int[] {5}, 0, 0, 0}, {"a", new int[] {4}, NOTHING, NOTHING, 0},
            {"ab", new int[] {9, 5}, 1, 0, 1}, {"ab", new int[] {9, 4}, NOTHING, 0, 1},
            {"ab", new int[] {4, 9}, 1, 1, 0}, {"ab", new int[] {4, 4}, NOTHING, NOTHING, 0},
            {"aa", new int[] {9, 9}, 0, 0, 0}, {"aa", new int[] {9, 4}, NOTHING, 0, 1},
            {"aba", new int[] {5, 5, 5}, 0, 0, 0}, {"abc", new int[] {1, 5, 9}, 2, 1, 1},
            {"abcdef", new int[] {1, 1, 1, 1, 1, 5}, 5, 5, 0}, {"abcdef", new int[] {5, 1, 1, 1, 1, 1}, NOTHING, 0, 1},
        };
        for (Object[] one : all) {
            ScrapedSkin x = pile((String) one[0], (int[]) one[1]);
            Checks.same("shows of " + one[0], x.shows(0), (Integer) one[2]);
            Checks.same("lamp of " + one[0], x.lamp(0), (Integer) one[3]);
            Checks.same("beneath of " + one[0], x.most(8), (Integer) one[4]);
            Checks.same("game looks beneath of " + one[0], x.game(0, 0, 2, 1), 3 * (Integer) one[4] - 2);
            Checks.same("nothing beside it shows", x.shows(1), NOTHING);
            Checks.same("nor by the lamp", x.lamp(1), NOTHING);
        }
    }

    private static void smallSkin(ScrapedSkin x) {
        Checks.tell(x, 0, "sw3r2l3k30;hi6f1;hi2f0");
        Checks.tell(x, 2, "ab");
        Checks.tell(x, 2, "c/.d");
        Checks.tell(x, 1, "y:1");
        x.write(0, 0, 0, 0);
        x.write(1, 0, 1, 0);
        x.write(0, 1, 1, 0);
        x.ages(1);
        x.noted(0, 0, true);
    }

    private static void silent(String what, ToLongFunction<ScrapedSkin> call, long want) {
        Edges.silent(what, EdgeReadTest::smallSkin, call, want);
    }

    /** Promises 20 and 21: NONE: no such CELL. */
    private static void noSuchCell() {
        ScrapedSkin x = Checks.skin("sw3r2;h", "a");
        x.write(0, 0, 0, 0);
        x.write(0, 0, 5, 0);
        for (int cell = -1; cell <= 6; cell++) {
            int want = cell < 0 || cell > 5 ? -1 : cell == 0 || cell == 5 ? 0 : NOTHING;
            Checks.same("shows " + cell, x.shows(cell), want);
            Checks.same("lamp " + cell, x.lamp(cell), want);
        }
        for (int far : FAR) {
            silent("shows " + far, s -> s.shows(far), -1);
            silent("lamp " + far, s -> s.lamp(far), -1);
        }
    }

    /** AGREES, if there is a LEGIBLE LAYER with that letter; GONE, if none there is LEGIBLE; else AGAINST it. */
    private static void agreesGoneAgainst() {
        Object[][] all = {
            {"a", new int[] {5}, 0}, {"a", new int[] {4}, 1}, {"b", new int[] {5}, 2}, {"b", new int[] {4}, 1},
            {"ab", new int[] {5, 9}, 0}, {"ba", new int[] {9, 5}, 0}, {"ab", new int[] {4, 5}, 2},
            {"ba", new int[] {5, 4}, 2}, {"ab", new int[] {4, 4}, 1}, {"ab", new int[] {5, 4}, 0},
            {"aa", new int[] {4, 5}, 0}, {"abcdef", new int[] {5, 9, 9, 9, 9, 9}, 0},
            {"abcdef", new int[] {4, 1, 1, 1, 1, 5}, 2}, {"bcdefa", new int[] {1, 1, 1, 1, 1, 4}, 1},
        };
        for (Object[] one : all) {
            ScrapedSkin x = pile((String) one[0], (int[]) one[1]);
            int told = ((String) one[0]).indexOf('a');
            int writing = told < 0 ? Checks.tell(x, 2, "a") : told;
            for (int what = 0; what < 3; what++) {
                Checks.same("a in " + one[0] + ", " + what, x.agrees(writing, 0, what), what == (Integer) one[2] ? 1 : 0);
                Checks.same("a in the blank cell, " + what, x.agrees(writing, 4, what), what == 1 ? 1 : 0);
            }
            boolean stands = (Integer) one[2] == 0;
            Checks.same("it may stand by four ways or not at all: " + one[0], x.may(writing, -1), stands ? 4 : 0);
            Checks.same("best", x.best(writing), stands ? 0 : -1);
        }
        ScrapedSkin x = Checks.skin("sw4r1;h", "a..b", "a");
        x.write(1, 0, 0, 0);
        Checks.same("signs left free are no letters", x.agrees(0, 0, 0) + x.agrees(0, 0, 1) + x.agrees(0, 0, 2), 2);
    }

    /** Promise 22: NONE: no such WRITING, it does not DO there, no such what. */
    private static void agreesRefused() {
        for (int what = -1; what <= 3; what++) {
            int w = what;
            silent("agrees what " + what, x -> x.agrees(0, 0, w), what == 0 ? 2 : what == 1 || what == 2 ? 0 : -1);
        }
        int[][] wrong = {{-1, 0, 0}, {2, 0, 0}, {0, -1, 0}, {0, 24, 0}, {0, 8, 0}, {0, 2, 0}, {0, 1 << 30, 0}, {1, 23, 0}};
        for (int[] one : wrong) {
            silent("agrees " + one[0] + ", " + one[1], x -> x.agrees(one[0], one[1], one[2]), -1);
        }
        silent("the last place there is: from 5 upwards, b is gone", x -> x.agrees(0, 23, 1), 1);
        silent("from 5 to the left, a is against it", x -> x.agrees(0, 22, 2), 1);
        silent("from 5 down it does not", x -> x.agrees(0, 21, 2), -1);
    }

    /** It MAY stand, if none of its letters is AGAINST it and one at least AGREES. */
    private static void mayStand() {
        ScrapedSkin x = Checks.skin("sw4r1k50;h", "abc", "a", "b", "c", "x");
        Checks.same("all gone", x.may(0, -1), 0);
        x.write(1, 0, 0, 0);
        Checks.same("one agrees, two are gone", x.may(0, -1), 1);
        Checks.same("at 0", x.may(0, 0), 0);
        Checks.same("and best", x.best(0), 0);
        x.write(4, 0, 2, 0);
        Checks.same("one is against it", x.may(0, -1), 0);
        Checks.same("nowhere", x.best(0), -1);
        x.write(3, 0, 2, 0);
        Checks.same("it agrees beneath or above", x.may(0, -1), 1);
        x.write(2, 0, 1, 0);
        Checks.same("all agree", x.agrees(0, 0, 0), 3);
        Checks.same("from the right: c against a", x.may(0, -1), 1);
        Checks.same("a at each way", x.may(1, -1), 4);
        for (int i = 0; i < 4; i++) {
            Checks.same("rising", x.may(1, i), i);
            Checks.same("the places of c", x.may(3, i), 8 + i);
        }
    }

    /** Promise 23: NONE: no such one, no such WRITING, no SKIN. */
    private static void mayRefused() {
        Consumer<ScrapedSkin> past = x -> {
            Checks.tell(x, 0, "sw2r2;h");
            Checks.tell(x, 2, "a");
            Checks.tell(x, 2, "b");
            Checks.tell(x, 2, "abc");
            x.write(0, 0, 3, 0);
        };
        int[] want = {-1, 4, 12, 13, 14, 15, -1};
        for (int i = -2; i <= 4; i++) {
            int one = i;
            Edges.silent("may 0, " + i, past, x -> x.may(0, one), want[i + 2]);
        }
        Edges.silent("none may", past, x -> x.may(1, -1), 0);
        Edges.silent("so no first", past, x -> x.may(1, 0), -1);
        Edges.silent("it does nowhere", past, x -> x.may(2, -1), 0);
        Edges.silent("and is best nowhere", past, x -> x.best(2), -1);
        for (int writing : new int[] {-1, 3, Edges.MIN, Edges.MAX}) {
            Edges.silent("may of writing " + writing, past, x -> x.may(writing, -1), -1);
            Edges.silent("best of writing " + writing, past, x -> x.best(writing), -1);
        }
        Edges.silent("no skin", x -> Checks.tell(x, 2, "a"), x -> x.may(0, -1), -1);
        Edges.silent("no skin, no first", x -> Checks.tell(x, 2, "a"), x -> x.may(0, 0), -1);
        Edges.silent("no skin, no best", x -> Checks.tell(x, 2, "a"), x -> x.best(0), -1);
    }

    /** BEST: where most of its letters AGREE (of several the lowest). */
    private static void bestOfSeveral() {
        ScrapedSkin x = Checks.skin("sw6r1k50;h", "ab", "b", "a");
        x.write(1, 0, 1, 0);
        Checks.same("one agrees, rightwards or leftwards", x.may(0, -1), 2);
        Checks.same("the lowest", x.best(0), 0);
        x.write(0, 0, 4, 0);
        Checks.same("two agree", x.best(0), 16);
        x.write(0, 0, 2, 0);
        Checks.same("two agree ahead of that", x.best(0), 8);
        x.write(2, 0, 0, 0);
        Checks.same("at the first", x.best(0), 0);
    }

    /** Pairs of LAYERS in one CELL, the one's LAYER over the other's (how far ever). */
    private static void howFarEver() {
        ScrapedSkin x = Checks.skin("sw2r1k50;hi9;h;h", "a");
        Checks.same("none of a hand that wrote nothing", x.over(2, 2), 0);
        x.write(0, 0, 0, 0);
        Checks.same("one layer is over none", x.over(0, 0), 0);
        x.write(0, 1, 1, 0);
        Checks.same("cells beside one another are no pair", x.over(0, 1) + x.over(1, 0), 0);
        for (int i = 0; i < 5; i++) {
            x.write(0, 0, 0, 0);
        }
        Checks.same("six of one hand", x.over(0, 0), 15);
        ScrapedSkin y = Checks.skin("sw2r1k50;h;h;h", "a");
        for (int i = 0; i < 6; i++) {
            y.write(0, i % 2, 0, 0);
        }
        int[][] over = {{3, 3, 0}, {6, 3, 0}, {0, 0, 0}};
        for (int one = -1; one <= 3; one++) {
            for (int other = -1; other <= 3; other++) {
                boolean is = one >= 0 && one < 3 && other >= 0 && other < 3;
                Checks.same("over " + one + ", " + other, y.over(one, other), is ? over[one][other] : -1);
            }
        }
        Checks.same("0 wrote first", y.order(0), 12);
        Checks.same("three lie otherwise", y.order(1), 3);
        for (int far : FAR) {
            silent("over " + far + ", 0", s -> s.over(far, 0), -1);
            silent("over 0, " + far, s -> s.over(0, far), -1);
        }
    }

    /** By which fewest pairs of unlike HANDS lie otherwise (of several the least row). */
    private static void orderOfSeveral() {
        int[] least = {0, 1, 12, 123};
        int[] most = {0, 10, 210, 3210};
        for (int hands = 1; hands <= 4; hands++) {
            String skin = "sw2r1k50" + ";h".repeat(hands);
            ScrapedSkin x = Checks.skin(skin, "a");
            Checks.same("nothing written by " + hands, x.order(0), least[hands - 1]);
            Checks.same("none otherwise", x.order(1), 0);
            for (int hand = hands - 1; hand >= 0; hand--) {
                x.write(0, hand, 0, 0);
                x.write(0, hand, 1, 0);
                x.undo();
            }
            Checks.same("the last one first of " + hands, x.order(0), most[hands - 1]);
            Checks.same("none lies otherwise", x.order(1), 0);
        }
        ScrapedSkin x = Checks.skin("sw2r1k50;h;h", "a");
        x.write(0, 1, 0, 0);
        x.write(0, 0, 0, 0);
        x.write(0, 0, 1, 0);
        x.write(0, 1, 1, 0);
        Checks.same("each over the other: the least row", x.order(0), 1);
        Checks.same("one lies otherwise", x.order(1), 1);
        x.write(0, 0, 0, 0);
        Checks.same("0 over 1 twice: 1 wrote first", x.order(0), 10);
        Checks.same("one still otherwise", x.order(1), 1);
        for (int what : new int[] {-1, 2, 3, Edges.MIN, Edges.MAX}) {
            silent("order " + what, s -> s.order(what), -1);
        }
        for (int hands = 2; hands <= 4; hands++) {
            for (String row : rowsOf(hands)) {
                ScrapedSkin each = Checks.skin("sw2r1k50" + ";h".repeat(hands), "a");
                for (int i = 0; i < hands; i++) {
                    each.write(0, row.charAt(i) - '0', 1, 0);
                }
                Checks.same("written in the order " + row, each.order(0), Integer.parseInt(row));
                Checks.same("none otherwise", each.order(1), 0);
            }
        }
    }

    /** All rows of the digits below n, each once. */
    private static List<String> rowsOf(int n) {
        List<String> all = new ArrayList<>();
        all.add("");
        for (int length = 0; length < n; length++) {
            List<String> longer = new ArrayList<>();
            for (String row : all) {
                for (int digit = 0; digit < n; digit++) {
                    if (row.indexOf('0' + digit) < 0) {
                        longer.add(row + digit);
                    }
                }
            }
            all = longer;
        }
        return all;
    }

    /** LOST: each ROW by any whole amount: what lies over it first, then down to one below LEGIBLE. */
    private static void lostByAmounts() {
        for (int legible = 1; legible <= 9; legible++) {
            ScrapedSkin x = Checks.skin("sw2r1l" + legible + "k6;hf0i9", "a", "b");
            x.write(0, 0, 0, 0);
            for (int above = 0; above <= 5; above++) {
                Checks.same(above + " of 9 above, legible from " + legible, x.lost(0, 0, 1), 9 * above + 10 - legible);
                x.write(1, 0, 0, 0);
            }
            Checks.same("for no coin", x.rule(3), 0);
            Checks.same("and nothing is scraped", x.most(1), 54);
        }
        ScrapedSkin twice = Checks.skin("sw2r1l3k9;hf0i5;hf0i2", "a", "b");
        twice.write(0, 0, 0, 0);
        twice.write(1, 0, 0, 0);
        twice.write(0, 0, 0, 0);
        Checks.same("the lowest of the letter holds", twice.lost(0, 0, 1), 5 + 5 + 3);
        twice.write(0, 1, 0, 0);
        Checks.same("one that is not legible lies over it all the same", twice.lost(0, 0, 1), 2 + 5 + 5 + 3);
    }

    /** Only layers that are there now, of that letter, and LEGIBLE, hold; those above are in the way all the same. */
    private static void lostByWhatHolds() {
        ScrapedSkin x = Checks.skin("sw2r1l3k50;hf0i9;hf0i5;hf0i2", "a", "b", "a.b");
        x.write(1, 1, 0, 0);
        x.write(0, 1, 0, 0);
        Checks.same("a b beneath does not hold", x.lost(0, 0, 1), 3);
        Checks.same("the b itself does", x.lost(1, 0, 1), 8);
        x.write(1, 0, 0, 0);
        Checks.same("beneath 9", x.lost(0, 0, 1), 12);
        x.scrape(0, 9);
        Checks.same("that is gone again", x.lost(0, 0, 1), 3);
        x.undo();
        x.undo();
        Checks.same("or was undone", x.lost(0, 0, 1), 3);
        x.write(0, 2, 1, 0);
        Checks.same("an a that is not legible is lost already", x.lost(0, 4, 1), 0);
        x.write(1, 1, 1, 0);
        Checks.same("though a b over it is", x.lost(0, 4, 1), 0);
        Checks.same("which is lost itself by", x.lost(1, 4, 1), 3);
        ScrapedSkin full = Checks.skin("sw2r1l3k50;hf0i9;hf0i5", "a", "b");
        for (int i = 0; i < 6; i++) {
            full.write(i == 5 ? 0 : 1, 0, 0, 0);
            full.write(0, 0, 1, 0);
        }
        Checks.same("uppermost of six; what the next cell holds is nothing to it", full.lost(0, 0, 1), 7);
        ScrapedSkin free = Checks.skin("sw3r1l3k50;hf0i5", "a.b");
        free.write(0, 0, 0, 0);
        Checks.same("a sign left free is not lost", free.lost(0, 0, 2), 3);
        Checks.same("nor needed", free.lost(0, 0, 1), 3);
        Checks.same("nor counted", free.lost(0, 0, 3), 0);
        ScrapedSkin last = Checks.skin("sw8r5l3k50;hf0i5", "a", "a/a");
        last.write(0, 0, 39, 0);
        Checks.same("in the last row", last.lost(0, 4 * 39, 1), 3);
        last.write(0, 0, 31, 0);
        Checks.same("in the last two", last.lost(1, 4 * 31, 1), 6);
        Checks.same("in one of them", last.lost(1, 4 * 31, 2), 3);
        Checks.same("upwards", last.lost(1, 4 * 39 + 2, 1), 6);
    }

    /** All amounts added up; fewer than v of its letters AGREE. */
    private static void lostByRows() {
        ScrapedSkin x = Checks.skin("sw2r2l3k50;hf0i4;hf0i7;hf0i5", "ab/cd", "a", "b", "c", "d");
        x.write(1, 0, 0, 0);
        x.write(2, 1, 1, 0);
        x.write(3, 2, 2, 0);
        x.write(4, 2, 3, 0);
        // a by 2, b by 5 in the upper row; c and d by 3 in the lower one
        int[] least = {8, 5, 3, 2, 0, 0};
        for (int v = 1; v <= 6; v++) {
            Checks.same("fewer than " + v, x.lost(0, 0, v), least[v - 1]);
        }
        Checks.same("fewer than sixteen", x.lost(0, 0, 16), 0);
        ScrapedSkin y = Checks.skin("sw2r5l1k50;hf0i1", "aa/aa/aa/aa", "a/a");
        y.write(0, 0, 0, 0);
        for (int v = 1; v <= 9; v++) {
            Checks.same("rows of two, fewer than " + v, y.lost(0, 0, v), (9 - v + 1) / 2);
        }
        Checks.same("two of a column", y.lost(1, 0, 1), 2);
        Checks.same("one of a column", y.lost(1, 0, 2), 1);
        Checks.same("by other ways, too", y.lost(1, 4, 1), 0 + 2);
        ScrapedSkin z = Checks.skin("sw8r2l9k2;hf0i9", "abcdefgh/ijklmnop");
        z.write(0, 0, 0, 0);
        for (int v = 1; v <= 16; v++) {
            Checks.same("of sixteen fewer than " + v, z.lost(0, 0, v), v <= 8 ? 2 : 1);
        }
    }

    /** Promises 27 and 28: v (1 .. 16). NONE: no such WRITING, it does not DO there, out of bounds. */
    private static void lostRefused() {
        int[][] wrong = {{0, 0, 0}, {0, 0, -1}, {0, 0, 17}, {0, 0, Edges.MIN}, {0, 0, Edges.MAX}, {-1, 0, 1}, {2, 0, 1},
            {0, 8, 1}, {0, -1, 1}, {0, 24, 1}, {0, Edges.MIN, 1}, {0, Edges.MAX, 1}, {1, 8, 1}};
        for (int[] one : wrong) {
            silent("lost " + one[0] + ", " + one[1] + ", " + one[2], x -> x.lost(one[0], one[1], one[2]), -1);
        }
        silent("lost for 1: b lies beneath 5 and 2", x -> x.lost(0, 0, 1), 2 + 5 + 3);
        silent("lost for 2", x -> x.lost(0, 0, 2), 3);
        silent("lost for 3", x -> x.lost(0, 0, 3), 0);
        silent("lost for 16", x -> x.lost(0, 0, 16), 0);
    }

    /** FADED: in how many YEARS (0 .. 99) fewer than v AGREE first. NONE: not within 99. */
    private static void fadedWithinNinetyNine() {
        for (int fast = 0; fast <= 9; fast++) {
            ScrapedSkin x = Checks.skin("sw2r1l3k9;hi9f" + fast, "ab");
            x.write(0, 0, 0, 0);
            int years = 0;
            for (int strength = 9; fast > 0 && strength >= 3; strength -= fast) {
                years++;
            }
            Checks.same("faded by " + fast, x.faded(0, 0, 1), fast == 0 ? -1 : years);
            Checks.same("fewer than two, too", x.faded(0, 0, 2), fast == 0 ? -1 : years);
            Checks.same("fewer than three agree already", x.faded(0, 0, 3), 0);
            Checks.same("and fewer than sixteen", x.faded(0, 0, 16), 0);
            Checks.same("nothing has faded", x.most(1), 18);
        }
        for (int in = 96; in <= 99; in++) {
            ScrapedSkin x = Checks.skin("sw2r1l3k9;hi9f5", "a");
            Checks.tell(x, 1, "y:y=" + in + "?9");
            x.law(0);
            x.write(0, 0, 0, 0);
            Checks.same("in the year " + in, x.faded(0, 0, 1), in < 99 ? in + 1 : -1);
            x.ages(1);
            Checks.same("a year later", x.faded(0, 0, 1), in);
        }
        ScrapedSkin x = Checks.skin("sw2r1l3k9;hi9f5", "a");
        Checks.tell(x, 1, "y:y=7?9");
        x.law(0);
        for (int i = 0; i < 33; i++) {
            x.ages(30);
        }
        x.ages(9);
        x.write(0, 0, 0, 0);
        Checks.same("years go on behind 999: to 1007", x.faded(0, 0, 1), 9);
        Checks.same("the year has not", x.count(6), 999);
        Checks.tell(x, 1, "y:y=98?9");
        x.law(1);
        Checks.same("not within 99 from 999: it would be 1098", x.faded(0, 0, 1), -1);
        Checks.tell(x, 1, "y:y=97?9");
        x.law(2);
        Checks.same("just within", x.faded(0, 0, 1), 99);
        ScrapedSkin two = Checks.skin("sw2r1l3k9;hi9f0;hi9f9", "ab", "b");
        two.write(0, 0, 0, 0);
        Checks.same("one of two fades never", two.faded(0, 0, 2), -1);
        two.write(1, 1, 1, 0);
        two.scrape(0, 9);
        Checks.same("what is left", two.agrees(0, 0, 0), 1);
        Checks.same("b alone agrees, never faded", two.faded(0, 0, 1), -1);
        Checks.same("fewer than two at once", two.faded(0, 0, 2), 0);
    }

    private static void fadedRefused() {
        int[][] wrong = {{0, 0, 0}, {0, 0, -1}, {0, 0, 17}, {0, 0, Edges.MIN}, {0, 0, Edges.MAX}, {-1, 0, 1}, {2, 0, 1},
            {0, 8, 1}, {0, -1, 1}, {0, 24, 1}, {0, Edges.MIN, 1}, {0, Edges.MAX, 1}, {1, 8, 1}};
        for (int[] one : wrong) {
            silent("faded " + one[0] + ", " + one[1] + ", " + one[2], x -> x.faded(one[0], one[1], one[2]), -1);
        }
        silent("faded for 1", x -> x.faded(0, 0, 1), 3);
        silent("faded for 16", x -> x.faded(0, 0, 16), 0);
    }

    /** NOTED (10 at most); promise 29: NONE: no such CELL, letter (0 .. 25), there are ten. */
    private static void tenNoted() {
        Consumer<ScrapedSkin> nine = x -> {
            Checks.tell(x, 0, "sw3r2;h");
            Checks.tell(x, 2, "ab");
            for (int i = 0; i < 9; i++) {
                x.noted(5, 25, false);
            }
        };
        Consumer<ScrapedSkin> ten = x -> {
            nine.accept(x);
            x.noted(5, 25, false);
        };
        ScrapedSkin x = new ScrapedSkin();
        nine.accept(x);
        Checks.same("nine", x.count(8), 9);
        Checks.same("a tenth", x.noted(0, 0, true), 10);
        Checks.same("ten", x.count(8), 10);
        Edges.silent("an eleventh", ten, s -> s.noted(0, 0, true), -1);
        Edges.silent("the same again", ten, s -> s.noted(5, 25, false), -1);
        int[][] wrong = {{-1, 0}, {6, 0}, {0, -1}, {0, 26}, {Edges.MIN, 0}, {Edges.MAX, 0}, {0, Edges.MIN}, {0, Edges.MAX}};
        for (int[] one : wrong) {
            Edges.silent("noted " + one[0] + ", " + one[1], nine, s -> s.noted(one[0], one[1], true), -1);
            Edges.silent("not noted " + one[0] + ", " + one[1], nine, s -> s.noted(one[0], one[1], false), -1);
        }
        int[][] right = {{0, 0}, {0, 25}, {5, 0}, {5, 25}};
        for (int[] one : right) {
            ScrapedSkin y = Checks.skin("sw3r2;h");
            Checks.same("noted " + one[0] + ", " + one[1], y.noted(one[0], one[1], true), 1);
            Checks.same("noted against it", y.noted(one[0], one[1], false), 2);
            Checks.same("no act", y.count(10), 0);
        }
        Edges.silent("no skin", s -> { }, s -> s.noted(0, 0, true), -1);
    }

    /** FITS: WRITINGS at places where all NOTED is so: how many, the i-th (rising). NONE: no such one, no SKIN. */
    private static void fitting() {
        ScrapedSkin all = Checks.skin("sw2r1;h", "a", "b", "c", "d", "e", "ab");
        Checks.same("each letter at two cells by four ways, the two by two ways", all.fits(-1), 42);
        for (int i = 0; i < 40; i++) {
            Checks.same("the " + i + "th", all.fits(i), 1000 * (i / 8) + i % 8);
        }
        Checks.same("rightwards from 0", all.fits(40), 5000);
        Checks.same("the last: leftwards from 1", all.fits(41), 5006);
        Checks.same("none behind it", all.fits(42), -1);
        for (int i : new int[] {-2, Edges.MIN, Edges.MAX}) {
            silent("fits " + i, x -> x.fits(i), -1);
        }
        ScrapedSkin x = Checks.skin("sw2r1;h", "ab", "a.", "abc");
        Checks.same("what is too long does nowhere", x.fits(-1), 4);
        x.noted(1, 1, false);
        Checks.same("no b in 1: leftwards, and with nothing there", x.fits(-1), 3);
        Checks.same("leftwards", x.fits(0), 6);
        Checks.same("with a sign left free", x.fits(1), 1000);
        Checks.same("that one leftwards", x.fits(2), 1006);
        x.noted(0, 0, true);
        Checks.same("a in 0", x.fits(-1), 1);
        Checks.same("the one", x.fits(0), 1000);
        x.noted(1, 0, true);
        Checks.same("none", x.fits(-1), 0);
        Checks.same("no first", x.fits(0), -1);
        Checks.same("nothing to ask", x.ask(), -1);
        Edges.silent("no skin", s -> Checks.tell(s, 2, "a"), s -> s.fits(-1), -1);
        Edges.silent("no writing", s -> Checks.tell(s, 0, "h"), s -> s.fits(-1), 0);
        Edges.silent("no writing, no first", s -> Checks.tell(s, 0, "h"), s -> s.fits(0), -1);
        ScrapedSkin dark = Checks.skin("sw2r1k9;h", "a", "b");
        dark.write(1, 0, 0, 0);
        Checks.same("on a blank skin: what is written is nothing to it", dark.fits(-1), 16);
    }

    /** NOTED of a writing of two lines: by each way its second line lies elsewhere. */
    private static void fittingByWays() {
        // ab/c from the cell 4, the middle of 3 times 3: the b and the c by each way
        int[] cells = {5, 7, 7, 3, 3, 1, 1, 5};
        for (int way = 0; way < 4; way++) {
            ScrapedSkin x = Checks.skin("sw3r3;h", "ab/c");
            x.noted(4, 0, true);
            Checks.same("four ways from there", x.fits(-1), 4);
            x.noted(cells[2 * way + 1], 2, true);
            Checks.same("the c by way " + way, x.fits(-1), 1);
            Checks.same("its place", x.fits(0), 16 + way);
            x.noted(cells[2 * way], 1, true);
            Checks.same("and the b", x.fits(0), 16 + way);
            x.noted(cells[2 * way], 1, false);
            Checks.same("not both", x.fits(-1), 0);
            ScrapedSkin not = Checks.skin("sw3r3;h", "ab/c");
            not.noted(4, 0, true);
            not.noted(cells[2 * way + 1], 2, false);
            Checks.same("all but way " + way, not.fits(-1), 3);
            Checks.same("what is beyond a line is no letter of the next", not.noted(8, 2, false), 3);
            Checks.same("still", not.fits(-1), 3);
        }
    }

    /** ASK: the CELL for which the most that tell the same of it are fewest (of several the lowest). */
    private static void asking() {
        ScrapedSkin one = Checks.skin("sw3r1;h", "a");
        Checks.same("all alike: the lowest", one.ask(), 0);
        one.noted(0, 0, false);
        Checks.same("at 1 or 2: the lower", one.ask(), 1);
        one.noted(1, 0, false);
        Checks.same("at 2 for sure: the lowest of all", one.ask(), 0);
        one.noted(2, 0, false);
        Checks.same("nothing fits", one.ask(), -1);
        ScrapedSkin two = Checks.skin("sw2r1;h", "ab", "ac");
        Checks.same("two of four tell a of each", two.ask(), 0);
        two.noted(0, 0, true);
        Checks.same("b or c", two.ask(), 1);
        ScrapedSkin free = Checks.skin("sw3r1;h", "a.b", "a.c");
        free.noted(0, 0, true);
        Checks.same("a sign left free tells none", free.ask(), 2);
        Edges.silent("no skin", s -> Checks.tell(s, 2, "a"), s -> s.ask(), -1);
        Edges.silent("no writing", s -> Checks.tell(s, 0, "h"), s -> s.ask(), -1);
        Edges.silent("it does nowhere", s -> {
            Checks.tell(s, 0, "sw2r1;h");
            Checks.tell(s, 2, "abc");
        }, s -> s.ask(), -1);
        ScrapedSkin z = Checks.skin("sw3r1;h", "z");
        z.noted(0, 25, false);
        Checks.same("the last letter at 1 or 2: the lower", z.ask(), 1);
        ScrapedSkin far = Checks.skin("sw8r5;h", "z");
        for (int cell = 0; cell < 5; cell++) {
            far.noted(cell, 25, false);
        }
        Checks.same("each of 35 cells by four ways", far.fits(-1), 140);
        Checks.same("the lowest of them", far.ask(), 5);
        ScrapedSkin ends = Checks.skin("sw8r5;h", "a......y", "a......z");
        ends.noted(32, 0, true);
        Checks.same("y or z", ends.fits(-1), 2);
        Checks.same("in the last cell", ends.ask(), 39);
        ScrapedSkin last = Checks.skin("sw8r5;h", "a");
        for (int cell = 0; cell < 10; cell++) {
            last.noted(cell, 0, false);
        }
        Checks.same("the first that is not noted", last.ask(), 10);
    }

    /** MEETS: at the most (all of one of both, too; . is like . alone); of one with itself, too. */
    private static void meeting() {
        String[][] all = {
            {"a", "a", "1"}, {"a", "b", "0"}, {"ab", "ba", "1"}, {"ab", "ab", "2"}, {"ab", "abc", "2"},
            {"abc", "ab", "0"}, {"cab", "ab", "2"}, {"ab", "b", "1"}, {"b", "bbbb", "1"}, {"bbbb", "b", "1"},
            {"bbb", "bbbb", "3"}, {"abab", "abab", "4"}, {"abab", "ababab", "4"}, {"ababab", "abab", "4"},
            {"aab", "abaab", "2"}, {"a.", ".a", "1"}, {"a.", "aa", "0"}, {"aa", ".a", "0"}, {".a", "a.", "1"},
            {"a..", "..a", "2"}, {"abcdefgh", "abcdefgh", "8"}, {"abcdefgh", "bcdefgha", "7"},
            {"abcdefgh", "habcdefg", "1"}, {"ab/xy", "b/z", "1"}, {"ab/xy", "y", "0"}, {"ab", "z/ab", "0"},
            {"xa/b", "a/b", "1"},
        };
        for (String[] one : all) {
            ScrapedSkin x = new ScrapedSkin();
            Checks.tell(x, 2, one[0]);
            Checks.tell(x, 2, one[1]);
            Checks.same(one[0] + " meets " + one[1], x.meets(0, 1), Integer.parseInt(one[2]));
            Checks.same("with itself " + one[0], x.meets(0, 0), (one[0] + "/").indexOf('/'));
        }
        for (int far : new int[] {-1, 2, 6, Edges.MIN, Edges.MAX}) {
            silent("meets " + far + ", 0", x -> x.meets(far, 0), -1);
            silent("meets 0, " + far, x -> x.meets(0, far), -1);
        }
        Edges.silent("no writings", x -> Checks.tell(x, 0, "h"), x -> x.meets(0, 0), -1);
    }

    /** QUIRE: (digits, each once), most (of several the least row). NONE: no WRITING, no such what. */
    private static void quireOfSeveral() {
        int[] least = {0, 1, 12, 123, 1234, 12345};
        int[] most = {0, 10, 210, 3210, 43210, 543210};
        for (int n = 1; n <= 6; n++) {
            ScrapedSkin strange = new ScrapedSkin();
            ScrapedSkin behind = new ScrapedSkin();
            for (int i = 0; i < n; i++) {
                Checks.tell(strange, 2, (char) ('a' + i) + "" + (char) ('n' + i));
                Checks.tell(behind, 2, (char) ('b' + i) + "" + (char) ('a' + i));
            }
            Checks.same("none of " + n + " meet: the least row", strange.quire(0), least[n - 1]);
            Checks.same("nothing meets", strange.quire(1), 0);
            Checks.same("each meets the one told ahead of it", behind.quire(0), most[n - 1]);
            Checks.same("by one each", behind.quire(1), n - 1);
        }
        ScrapedSkin x = new ScrapedSkin();
        Checks.tell(x, 2, "aa");
        Checks.tell(x, 2, "aa");
        Checks.tell(x, 2, "ab");
        Checks.same("the least of several", x.quire(0), 12);
        Checks.same("2 and 1", x.quire(1), 3);
        for (int n = 2; n <= 6; n++) {
            for (String row : rowsOf(n)) {
                ScrapedSkin each = new ScrapedSkin();
                for (int i = 0; i < n; i++) {
                    int at = row.indexOf('0' + i);
                    Checks.tell(each, 2, (char) ('a' + at) + "" + (char) ('b' + at));
                }
                Checks.same("each meets the next in " + row, each.quire(0), Integer.parseInt(row));
                Checks.same("by one", each.quire(1), n - 1);
            }
        }
        for (int what : new int[] {-1, 2, Edges.MIN, Edges.MAX}) {
            silent("quire " + what, s -> s.quire(what), -1);
        }
        for (int what = -1; what <= 2; what++) {
            int w = what;
            Edges.silent("no writing, quire " + what, s -> Checks.tell(s, 0, "h"), s -> s.quire(w), -1);
        }
    }

    /** Twice how many LAYERS of it are not LEGIBLE any more by that, less x; the other, less y. */
    private static void gameOfARow() {
        ScrapedSkin x = Checks.skin("sw2r2l1k50;hi1f0;hi3f0", "a", "b", "c");
        for (int i = 0; i < 3; i++) {
            x.write(i, 0, 0, 0);
        }
        x.write(0, 1, 3, 0);
        // The upper row: c over b over a, of 1 each: one more is gone by each
        int[] scraper = {0, 1, 2, 3};
        int[][] reader = {{1, 0, 1}, {1, 0, 1}, {1, 0, -2}, {0, -1, -2}};
        for (int by = 0; by < 4; by++) {
            for (int y = 0; y < 3; y++) {
                Checks.same("upper row, scraped by " + by, x.game(0, by, y, 0), scraper[by]);
                Checks.same("read at " + y, x.game(0, by, y, 1), reader[by][y]);
            }
        }
        // The lower row: an a of 3, gone by 3 alone
        int[] low = {0, -1, -2, -1};
        for (int by = 0; by < 4; by++) {
            Checks.same("lower row, scraped by " + by, x.game(1, by, 0, 0), low[by]);
            Checks.same("read on top", x.game(1, by, 0, 1), by < 3 ? 1 : 0);
            Checks.same("read by the lamp", x.game(1, by, 1, 1), by < 3 ? 0 : -1);
            Checks.same("both", x.game(1, by, 2, 1), -2);
        }
        Checks.same("one rest above: scraped by 3, read on top", x.rests(0, -1), 1);
        Checks.same("it", x.rests(0, 0), 30);
        Checks.same("one rest below", x.rests(1, -1), 1);
        Checks.same("that", x.rests(1, 0), 0);
        Checks.same("the skin is as it was", x.most(1), 6);
        ScrapedSkin y = Checks.skin("sw8r5l1k50;hi1f0", "aa");
        Checks.same("down from the last cell of the first row", y.write(0, 0, 7, 1), 2);
        Checks.same("to the last cell of all", y.write(0, 0, 38, 0), 4);
        Checks.same("the first row: its last cell alone", y.game(0, 0, 0, 1), 1);
        Checks.same("gone by 1", y.game(0, 1, 0, 0), 1);
        Checks.same("the second row: its last cell alone", y.game(1, 1, 0, 0), 1);
        Checks.same("the row ahead of the last: none of the last", y.game(3, 0, 0, 1), 0);
        Checks.same("the last row: both", y.game(4, 0, 0, 1), 2);
        Checks.same("both gone", y.game(4, 1, 0, 0), 3);
        Checks.same("its one rest", y.rests(4, 0), 10);
        ScrapedSkin z = Checks.skin("sw2r2l1k50;hi1f0", "a");
        z.write(0, 0, 2, 0);
        Checks.same("the first cell of the row below is not of this", z.game(0, 0, 0, 1), 0);
        Checks.same("nor its layer", z.game(0, 1, 0, 0), -1);
        Checks.same("nor by the lamp", z.game(0, 0, 1, 1), -1);
        Checks.same("but of that", z.game(1, 0, 0, 1), 1);
    }

    /** Promises 34 and 35: HIDDEN: no such ROW, out of bounds; NONE: no such one, no such ROW. */
    private static void gameRefused() {
        int hidden = ScrapedSkin.HIDDEN;
        for (int far : new int[] {-1, Edges.MIN, Edges.MAX}) {
            silent("game of row " + far, x -> x.game(far, 0, 0, 0), hidden);
            silent("game by " + far, x -> x.game(0, far, 0, 0), hidden);
            silent("game at " + far, x -> x.game(0, 0, far, 0), hidden);
            silent("game what " + far, x -> x.game(0, 0, 0, far), hidden);
            silent("rests of row " + far, x -> x.rests(far, -1), -1);
        }
        silent("game of row 2", x -> x.game(2, 0, 0, 0), hidden);
        silent("game by 4", x -> x.game(0, 4, 0, 0), hidden);
        silent("game at 3", x -> x.game(0, 0, 3, 0), hidden);
        silent("game what 2", x -> x.game(0, 0, 0, 2), hidden);
        silent("rests of row 2", x -> x.rests(2, -1), -1);
        silent("rests of row 2, the first", x -> x.rests(2, 0), -1);
        silent("the last of all bounds", x -> x.game(1, 3, 2, 1), -2);
        silent("the scraper there", x -> x.game(1, 3, 2, 0), -1);
        Edges.silent("no skin", x -> { }, x -> x.game(0, 0, 0, 0), hidden);
        Edges.silent("no skin, no rests", x -> { }, x -> x.rests(0, -1), -1);
        for (int i : new int[] {-2, 1, 12, Edges.MIN, Edges.MAX}) {
            Edges.silent("rests " + i, x -> Checks.tell(x, 0, "h"), x -> x.rests(0, i), -1);
        }
        Edges.silent("a blank row", x -> Checks.tell(x, 0, "h"), x -> x.rests(3, -1), 1);
        Edges.silent("at 0 and 0", x -> Checks.tell(x, 0, "h"), x -> x.rests(3, 0), 0);
    }

    /** RESTS: 10 times x and y by which neither has more by another of its own: how many, the i-th (rising). */
    private static void severalRests() {
        ScrapedSkin x = Checks.skin("sw2r1k50;hi4f0", "a");
        x.write(0, 0, 0, 0);
        rests("as much for the scraper by 0 and by 2", x, 0, 20);
        ScrapedSkin y = Checks.skin("sw2r1k50;hi9f0;hi2f0", "a");
        y.write(0, 0, 0, 0);
        y.write(0, 1, 0, 0);
        y.write(0, 0, 1, 0);
        rests("as much for the reader wherever he looks", y, 0, 1, 2);
        ScrapedSkin z = Checks.skin("sw2r1k50;hi6f0;hi3f0", "a", "b");
        z.write(0, 0, 0, 0);
        z.write(1, 1, 0, 0);
        z.write(0, 0, 1, 0);
        // By 1 the b over an a is not legible: then a alone shows, and the lamp brings up two, one beneath
        rests("three for one of the scraper", z, 10, 11, 12);
    }

    private static void rests(String what, ScrapedSkin x, int... want) {
        Checks.same(what, x.rests(0, -1), want.length);
        for (int i = 0; i <= want.length; i++) {
            Checks.same(what + ": " + i, x.rests(0, i), i < want.length ? want[i] : -1);
        }
        List<Integer> all = new ArrayList<>();
        for (int by = 0; by < 4; by++) {
            for (int at = 0; at < 3; at++) {
                boolean rest = true;
                for (int other = 0; other < 4; other++) {
                    rest &= x.game(0, other, at, 0) <= x.game(0, by, at, 0);
                }
                for (int other = 0; other < 3; other++) {
                    rest &= x.game(0, by, other, 1) <= x.game(0, by, at, 1);
                }
                if (rest) {
                    all.add(10 * by + at);
                }
            }
        }
        Checks.same(what + ": as the game tells", all.size(), want.length);
        for (int i = 0; i < Math.min(want.length, all.size()); i++) {
            Checks.same(what + ": as the game tells " + i, all.get(i), want[i]);
        }
    }

    /** ODDS: a chance (0 .. 100) and v (0 .. 16). NONE: no such WRITING, it does not DO there, out of bounds. */
    private static void oddsAtTheEnds() {
        for (int chance = 0; chance <= 100; chance++) {
            ScrapedSkin x = Checks.skin("h", "a", "b");
            x.write(0, 0, 0, 0);
            Checks.same("one letter, none needed", x.odds(0, 0, chance, 0), 1000000000);
            Checks.same("one letter by " + chance, x.odds(0, 0, chance, 1), 1000000000 - 10000000 * chance);
            Checks.same("two of one letter", x.odds(0, 0, chance, 2), 0);
            Checks.same("sixteen of one letter", x.odds(0, 0, chance, 16), 0);
            Checks.same("none agrees, none needed", x.odds(1, 0, chance, 0), 1000000000);
            Checks.same("none agrees, one needed", x.odds(1, 0, chance, 1), 0);
        }
        ScrapedSkin sixteen = Checks.skin("sw8r2;h", "abcdefgh/abcdefgh");
        sixteen.write(0, 0, 0, 0);
        for (int v = 0; v <= 16; v++) {
            Checks.same("none is misread", sixteen.odds(0, 0, 0, v), 1000000000);
            Checks.same("all are misread", sixteen.odds(0, 0, 100, v), v == 0 ? 1000000000 : 0);
        }
        // By 99 of 100 the first is read rightly in 10000000 parts, of these the next in 100000, 1000, 10, then 10 - 9
        Checks.same("four at least of four", fourLetters().odds(0, 0, 99, 4), 10);
        Checks.same("of ten parts 9 are misread, of one none", fiveLetters().odds(0, 0, 99, 5), 1);
        int[][] wrong = {{0, 0, -1, 0}, {0, 0, 101, 0}, {0, 0, 50, -1}, {0, 0, 50, 17}, {-1, 0, 50, 0}, {2, 0, 50, 0},
            {0, -1, 50, 0}, {0, 24, 50, 0}, {0, 8, 50, 0}, {0, 0, Edges.MIN, 0}, {0, 0, Edges.MAX, 0},
            {0, 0, 50, Edges.MIN}, {0, 0, 50, Edges.MAX}, {0, Edges.MIN, 50, 0}, {0, Edges.MAX, 50, 0}};
        for (int[] one : wrong) {
            silent("odds " + java.util.Arrays.toString(one), s -> s.odds(one[0], one[1], one[2], one[3]), -1);
        }
        silent("both of two", s -> s.odds(0, 0, 50, 2), 250000000);
        Edges.silent("no skin", s -> Checks.tell(s, 2, "a"), s -> s.odds(0, 0, 50, 0), -1);
    }

    private static ScrapedSkin fourLetters() {
        ScrapedSkin x = Checks.skin("h", "abcd");
        x.write(0, 0, 0, 0);
        return x;
    }

    private static ScrapedSkin fiveLetters() {
        ScrapedSkin x = Checks.skin("h", "abcde");
        x.write(0, 0, 0, 0);
        return x;
    }

    /** SHARES of c (0 .. 999): c times that of its LAYERS by that of all, cut (none: 0). */
    private static void sharesCut() {
        ScrapedSkin x = Checks.skin("sw2r1k9;hi1f0;hi2f0;hi9", "a");
        for (int hand = 0; hand < 3; hand++) {
            Checks.same("none of nothing", x.shares(hand, 0), 0);
            Checks.same("none", x.shares(hand, 999), 0);
        }
        x.write(0, 0, 0, 0);
        Checks.same("all", x.shares(0, 999), 999);
        Checks.same("all of none", x.shares(0, 0), 0);
        Checks.same("none of all", x.shares(1, 999), 0);
        x.write(0, 1, 1, 0);
        int[] ofOne = {0, 0, 0, 1, 1, 1, 2};
        int[] ofTwo = {0, 0, 1, 2, 2, 3, 4};
        for (int c = 0; c <= 6; c++) {
            Checks.same("a third of " + c, x.shares(0, c), ofOne[c]);
            Checks.same("two thirds of " + c, x.shares(1, c), ofTwo[c]);
            Checks.same("nothing of " + c, x.shares(2, c), 0);
        }
        Checks.same("a third of 998", x.shares(0, 998), 332);
        Checks.same("a third of 999", x.shares(0, 999), 333);
        Checks.same("two thirds of 999", x.shares(1, 999), 666);
        for (int far : new int[] {-1, 1000, 1001, Edges.MIN, Edges.MAX}) {
            silent("shares of " + far, s -> s.shares(0, far), -1);
        }
        for (int far : new int[] {-1, 2, 4, Edges.MIN, Edges.MAX}) {
            silent("shares for " + far, s -> s.shares(far, 1), -1);
        }
        ScrapedSkin full = Checks.skin("sw8r5k99;hi9f0;hi9f0;hi9f0;hi9f0", "abcdefgh/abcdefgh", "abcdefgh");
        for (int i = 0; i < 6; i++) {
            full.give(50);
            full.write(0, i % 4, 0, 0);
            full.write(0, i % 4, 16, 0);
            full.write(1, i % 4, 32, 0);
        }
        Checks.same("a full skin", full.most(0), 240);
        Checks.same("its strength", full.most(1), 2160);
        Checks.same("a third of it", full.shares(0, 999), 333);
        Checks.same("a sixth", full.shares(3, 999), 166);
    }

    /** DEEPEST, FULLEST, BUSIEST, COMMONEST: of several the lowest, all. */
    private static void mostOfSeveral() {
        ScrapedSkin x = Checks.skin("sw2r3k50;h;h;h", "z", "y");
        x.write(0, 2, 5, 0);
        most(x, 5, 2, 2, 25);
        x.write(1, 1, 3, 0);
        most(x, 3, 1, 1, 24);
        x.write(0, 2, 5, 0);
        most(x, 5, 2, 2, 25);
        x.write(1, 1, 3, 0);
        most(x, 3, 1, 1, 24);
        x.write(1, 0, 2, 0);
        most(x, 3, 1, 1, 24);
        x.write(0, 0, 5, 0);
        most(x, 5, 1, 0, 24);
        Checks.same("layers", x.most(0), 6);
        Checks.same("strength", x.most(1), 36);
        Checks.same("blank", x.most(6), 3);
        Checks.same("shown", x.most(7), 3);
        Checks.same("beneath: all alike", x.most(8), 0);
        Checks.same("pure: 2 and 3, not 5", x.most(9), 2);
        ScrapedSkin first = Checks.skin("sw8r5k50;h;h;h;h", "z", "a");
        first.write(0, 3, 39, 0);
        most(first, 39, 4, 3, 25);
        first.write(1, 0, 0, 0);
        most(first, 0, 0, 0, 0);
        first.write(0, 3, 38, 0);
        most(first, 0, 4, 3, 25);
        first.write(0, 3, 39, 0);
        most(first, 39, 4, 3, 25);
        for (int what : new int[] {-1, 10, 11, Edges.MIN, Edges.MAX}) {
            silent("most " + what, s -> s.most(what), -1);
        }
    }

    private static void most(ScrapedSkin x, int deepest, int fullest, int busiest, int commonest) {
        Checks.same("deepest", x.most(2), deepest);
        Checks.same("fullest", x.most(3), fullest);
        Checks.same("busiest", x.most(4), busiest);
        Checks.same("commonest", x.most(5), commonest);
    }

    /** COMMONEST: NONE: there is no LAYER; all others of nothing are 0, of equals the lowest. */
    private static void blankSkin() {
        int[] want = {0, 0, 0, 0, 0, -1, 4, 0, 0, 0};
        for (int what = 0; what < 10; what++) {
            int w = what;
            Edges.silent("most " + what + " of a blank skin", x -> Checks.tell(x, 0, "sw2r2;h;h"), x -> x.most(w), want[w]);
            ScrapedSkin gone = Checks.skin("sw2r2k9;hi1f0;h", "a");
            gone.write(0, 1, 3, 0);
            gone.scrape(1, 6);
            Checks.same("most " + what + " of one that is blank again", gone.most(what), want[what]);
        }
        ScrapedSkin all = Checks.skin("sw2r2k9;hi3f0;h", "aa/aa");
        all.write(0, 0, 0, 0);
        Checks.same("no blank cell", all.most(6), 0);
        Checks.same("each shown", all.most(7), 4);
        Checks.same("each pure", all.most(9), 4);
        all.write(0, 1, 0, 0);
        Checks.same("none pure", all.most(9), 0);
        Checks.same("still none beneath: alike", all.most(8), 0);
    }

    /** Without a SKIN all is refused, and nothing but STATUS is changed. */
    private static void noSkin() {
        Consumer<ScrapedSkin> texts = x -> {
            Checks.tell(x, 2, "ab");
            Checks.tell(x, 2, "ba");
            Checks.tell(x, 1, "y:1");
            x.law(0);
        };
        for (int n = -1; n <= 1; n++) {
            int a = n;
            refusedWithoutSkin(texts, a);
            Edges.silent("order " + n, texts, x -> x.order(a), -1);
            Edges.silent("most " + n, texts, x -> x.most(a), -1);
            Edges.silent("may " + n, texts, x -> x.may(0, a), -1);
            Edges.silent("rests " + n, texts, x -> x.rests(0, a), -1);
        }
        Edges.silent("meets needs no skin", texts, x -> x.meets(0, 1), 1);
        Edges.silent("quire needs no skin", texts, x -> x.quire(1), 1);
        Edges.silent("sign needs no skin", texts, x -> x.sign(1, 0, 0), 1);
    }

    private static void refusedWithoutSkin(Consumer<ScrapedSkin> texts, int a) {
        Edges.silent("shows " + a, texts, x -> x.shows(a), -1);
        Edges.silent("lamp " + a, texts, x -> x.lamp(a), -1);
        Edges.silent("agrees " + a, texts, x -> x.agrees(0, a, 0), -1);
        Edges.silent("best " + a, texts, x -> x.best(a), -1);
        Edges.silent("over " + a, texts, x -> x.over(a, a), -1);
        Edges.silent("lost " + a, texts, x -> x.lost(0, a, 1), -1);
        Edges.silent("faded " + a, texts, x -> x.faded(0, a, 1), -1);
        Edges.silent("noted " + a, texts, x -> x.noted(a, 0, true), -1);
        Edges.silent("fits " + a, texts, x -> x.fits(a), -1);
        Edges.silent("game " + a, texts, x -> x.game(a, 0, 0, 0), ScrapedSkin.HIDDEN);
        Edges.silent("odds " + a, texts, x -> x.odds(0, a, 0, 0), -1);
        Edges.silent("shares " + a, texts, x -> x.shares(a, 0), -1);
    }

    /** No argument whatever lets a call throw; what is far off is refused. */
    private static void farOffArguments() {
        for (int far : FAR) {
            silent("agrees of " + far, x -> x.agrees(far, 0, 0), -1);
            silent("agrees at " + far, x -> x.agrees(0, far, 0), -1);
            silent("agrees what " + far, x -> x.agrees(0, 0, far), -1);
            silent("all of agrees " + far, x -> x.agrees(far, far, far), -1);
            silent("all of lost " + far, x -> x.lost(far, far, far), -1);
            silent("all of faded " + far, x -> x.faded(far, far, far), -1);
            silent("all of odds " + far, x -> x.odds(far, far, far, far), -1);
            silent("all of game " + far, x -> x.game(far, far, far, far), ScrapedSkin.HIDDEN);
            silent("all of layer " + far, x -> x.layer(far, far, far), -1);
            silent("all of sign " + far, x -> x.sign(far, far, far), -1);
            silent("all of may " + far, x -> x.may(far, far), -1);
            silent("all of rests " + far, x -> x.rests(far, far), -1);
            silent("all of noted " + far, x -> x.noted(far, far, true), -1);
            silent("all of years " + far, x -> x.years(far, far), -1);
            silent("all of log " + far, x -> x.log(far, far), -1);
            silent("all of shares " + far, x -> x.shares(far, far), -1);
            silent("all of hand " + far, x -> Checks.hand(x, far, far), -77);
            Edges.refused("all of write " + far, EdgeReadTest::smallSkin, x -> x.write(far, far, far, far), -1, 0);
            Edges.refused("all of scrape " + far, EdgeReadTest::smallSkin, x -> x.scrape(far, far), -1, 1);
        }
    }

    /** (Apart, from as it is now): what is asked changes nothing. */
    private static void apart() {
        silent("all that is asked", x -> {
            for (int i = 0; i < 2; i++) {
                x.may(i, -1);
                x.best(i);
                x.over(i, 1 - i);
                x.order(i);
                x.lost(i, 0, 1);
                x.faded(i, 4 * i, 1);
                x.fits(i);
                x.ask();
                x.meets(i, 1 - i);
                x.quire(i);
                x.game(i, 3, 2, i);
                x.rests(i, 0);
                x.odds(i, 4 * i, 50, 1);
                x.shares(i, 500);
                x.most(i);
                x.shows(i);
                x.lamp(i);
                x.agrees(i, 4 * i, i);
            }
            return 0;
        }, 0);
    }
}
