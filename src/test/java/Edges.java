import java.util.function.Consumer;
import java.util.function.ToLongFunction;

/**
 * For tests at the boundaries. What is refused is tried on one of two objects of the same past; behind that both must
 * look alike from outside, but for one refusal more in STATUS. Each object is used for fewer than 512 calls.
 */
final class Edges {
    static final int MIN = Integer.MIN_VALUE;
    static final int MAX = Integer.MAX_VALUE;
    /** No refusal is counted. */
    static final int SILENT = -1;
    private static final int KINDS = 5;

    private Edges() {
    }

    static void refused(String what, Consumer<ScrapedSkin> past, ToLongFunction<ScrapedSkin> call, long want,
            int kind) {
        ScrapedSkin one = new ScrapedSkin();
        ScrapedSkin other = new ScrapedSkin();
        past.accept(one);
        past.accept(other);
        Checks.same(what, call.applyAsLong(one), want);
        for (int i = 0; i < KINDS; i++) {
            Checks.same(what + ": status " + i, one.status(i), other.status(i) + (i == kind ? 1 : 0));
        }
        Checks.holds(what + ": nothing has changed but status", seen(one).equals(seen(other)));
    }

    /** What the document asks to change nothing, as it is refused or asks only. */
    static void silent(String what, Consumer<ScrapedSkin> past, ToLongFunction<ScrapedSkin> call, long want) {
        refused(what, past, call, want, SILENT);
    }

    static long one(boolean so) {
        return so ? 1 : 0;
    }

    /** All that can be seen from outside but STATUS; behind that the object is used up, as its acts are undone. */
    static String seen(ScrapedSkin x) {
        StringBuilder all = new StringBuilder();
        now(x, all);
        texts(x, all);
        for (int i = 0; i < 3; i++) {
            add(all, x.undo());
            add(all, x.rule(3));
            add(all, x.most(0));
            add(all, x.most(1));
            add(all, x.count(6));
            add(all, x.log(0, 1));
        }
        add(all, x.back());
        now(x, all);
        return all.toString();
    }

    private static void now(ScrapedSkin x, StringBuilder all) {
        for (int what = 0; what <= 10; what++) {
            add(all, x.count(what));
        }
        for (int what = 0; what <= 9; what++) {
            add(all, x.most(what));
        }
        add(all, x.rule(3));
        for (int i = 0; i < 3; i++) {
            add(all, x.log(i, 0));
            add(all, x.log(i, 1));
            add(all, x.log(i, 2));
        }
        for (int cell = 0; cell < Math.min(8, x.count(0)); cell++) {
            int height = 0;
            while (height < 6 && add(all, x.layer(cell, height, 0)) != ScrapedSkin.NONE) {
                add(all, x.layer(cell, height, 1));
                add(all, x.layer(cell, height, 2));
                height++;
            }
        }
        add(all, x.fits(-1));
        add(all, x.fits(1));
        add(all, x.ask());
    }

    private static void texts(ScrapedSkin x, StringBuilder all) {
        for (int i = 0; i < 3; i++) {
            add(all, x.rule(i));
            add(all, x.fault(i));
        }
        for (int hand = 0; hand < Math.min(2, x.count(1)); hand++) {
            for (int what = 0; what < 4; what++) {
                add(all, Checks.hand(x, hand, what));
            }
        }
        for (int writing = 0; writing < Math.min(3, x.count(3)); writing++) {
            add(all, x.sign(writing, 0, 0));
            add(all, x.sign(writing, 0, 1));
            add(all, x.sign(writing, 1, 0));
            add(all, x.may(writing, -1));
            add(all, x.best(writing));
        }
        add(all, x.quire(0));
        add(all, x.quire(1));
    }

    private static int add(StringBuilder all, int answer) {
        all.append(answer).append(' ');
        return answer;
    }
}
