import java.util.Arrays;
import java.util.NoSuchElementException;

/** Parchment in cells in which letters lie over letters: written, scraped, faded and read again. */
public final class ScrapedSkin {
    public static final int NONE = -1;
    public static final int HIDDEN = -1000000;

    private static final int MOST_CELLS = 40;
    private static final int MOST_ROWS = 5;
    private static final int MOST_LAYERS = 6;
    private static final int MOST_HANDS = 4;
    private static final int MOST_LAWS = 4;
    private static final int MOST_WRITINGS = 6;
    private static final int MOST_LINES = 4;
    private static final int MOST_IN_LINE = 8;
    private static final int MOST_SIGNS = 16;
    private static final int MOST_NOTES = 10;
    private static final int MOST_COINS = 999;
    private static final int MOST_YEAR = 999;
    private static final int MOST_LOGGED = 60;
    private static final int MOST_UNDONE = 40;

    private static final int NO_SUCH_SORT = -2;
    private static final int LETTERS = 26;
    /** Stands for a cell that tells no letter, and for a sign left free. */
    private static final int NOTHING = 26;
    private static final int WAYS = 4;
    private static final int SCRAPES = 4;
    private static final int LOOKS = 3;
    private static final long ALL_PARTS = 1000000000L;

    private static final int NO_SUCH = 0;
    private static final int OUT_OF_BOUNDS = 1;
    private static final int NO_LAYER = 2;
    private static final int TOO_FEW = 3;
    private static final int TOO_LATE = 4;

    private static final int AGREEING = 0;
    private static final int GONE = 1;
    private static final int AGAINST = 2;

    private final Tape tape = new Tape();
    /** Without hands, rows and width until there is a skin, so that every cell and hand is "no such one". */
    private Rules rules = new Rules();
    private Rules nextRules = new Rules();
    private final Shelf shelf = new Shelf();
    private final Page page = new Page();
    /** For what is tried out apart from the skin itself. */
    private final Page trial = new Page();
    private final Log log = new Log();
    private final History history = new History();
    private final Notes notes = new Notes();
    private final Loss loss = new Loss();
    private final Ranking ranking = new Ranking();
    private final int[] refusals = new int[5];
    private final int[] tally = new int[MOST_CELLS * (LETTERS + 1)];
    private final int[] scraperHas = new int[SCRAPES];
    private final int[] readerHas = new int[SCRAPES * LOOKS];
    private int scribing = 4;
    private long drawn;

    public ScrapedSkin() {
    }

    public int feed(int a, int b, int c, int d, int e) {
        return tape.take(a, b, c, d, e);
    }

    public boolean end(int n) {
        return tape.cut(n);
    }

    public int fault(int sort) {
        tape.rewind();
        boolean right;
        if (sort == 0) {
            right = nextRules.read(tape);
        } else if (sort == 1) {
            right = shelf.nextLaw.read(tape);
        } else if (sort == 2) {
            right = shelf.nextWriting.read(tape);
        } else {
            return NO_SUCH_SORT;
        }
        return right ? NONE : tape.at;
    }

    public int text(int sort) {
        if (fault(sort) != NONE) {
            return NONE;
        }
        int taken = sort == 0 ? takeSkin() : sort == 1 ? shelf.takeLaw() : shelf.takeWriting();
        if (taken != NONE) {
            tape.cut(0);
        }
        return taken;
    }

    public int rule(int what) {
        if (!rules.isSkin() || what < 0 || what > 3) {
            return NONE;
        }
        return what == 3 ? page.coins : rules.ruled[what];
    }

    public int hand(int hand, int what) throws NoSuchElementException {
        if (!rules.hasHand(hand) || what < 0 || what > 3) {
            throw new NoSuchElementException("no such hand or what");
        }
        if (what < 2) {
            return rules.ofHand(hand, what);
        }
        return what == 2 ? page.layersOf(hand) : page.strengthOf(hand);
    }

    public int sign(int writing, int line, int i) {
        Writing told = shelf.writingAt(writing);
        return told == null ? NONE : told.signAt(line, i);
    }

    public int layer(int cell, int i, int what) {
        if (!rules.hasCell(cell) || i < 0 || i >= page.heights[cell] || what < 0 || what > 2) {
            return NONE;
        }
        int code = page.codeAt(cell, i);
        return what == 0 ? Page.letterIn(code) : what == 1 ? Page.handIn(code) : Page.strengthIn(code);
    }

    public boolean law(int law) {
        return shelf.lets(law);
    }

    public boolean scribes(int v) {
        if (v < 0 || v > 9 || v == scribing) {
            return false;
        }
        scribing = v;
        return true;
    }

    public int write(int writing, int hand, int cell, int way) {
        Writing told = shelf.writingAt(writing);
        if (told == null || !rules.hasHand(hand)) {
            return refuse(NO_SUCH);
        }
        if (!rules.hasCell(cell) || way < 0 || way >= WAYS || !rules.does(told, WAYS * cell + way)) {
            return refuse(OUT_OF_BOUNDS);
        }
        int spot = WAYS * cell + way;
        if (page.coins < told.lines || !hasRoom(told, spot)) {
            return refuse(TOO_FEW);
        }
        history.keep(page);
        page.coins -= told.lines;
        layDown(told, hand, spot);
        return page.layersInAll();
    }

    public int scrape(int row, int n) {
        if (!rules.isSkin()) {
            return refuse(NO_SUCH);
        }
        if (!rules.hasRow(row) || n < 1 || n > 9) {
            return refuse(OUT_OF_BOUNDS);
        }
        if (layersInRow(row) == 0) {
            return refuse(NO_LAYER);
        }
        if (page.coins < 1) {
            return refuse(TOO_FEW);
        }
        history.keep(page);
        page.coins--;
        return scrapeRow(page, row, n);
    }

    public int ages(int n) {
        if (!rules.isSkin()) {
            return refuse(NO_SUCH);
        }
        if (n < 1 || n > 30) {
            return refuse(OUT_OF_BOUNDS);
        }
        if (page.year + n > MOST_YEAR) {
            return refuse(TOO_LATE);
        }
        for (int i = 0; i < n; i++) {
            history.keep(page);
            passYear();
        }
        return page.year;
    }

    public int give(int n) {
        if (!rules.isSkin()) {
            return refuse(NO_SUCH);
        }
        if (n < 1 || n > 50 || page.coins + n > MOST_COINS) {
            return refuse(OUT_OF_BOUNDS);
        }
        history.keep(page);
        page.coins += n;
        return page.coins;
    }

    public int years(int n, long seed) {
        if (!rules.isSkin() || n < 1 || n > 30 || page.year + n > MOST_YEAR) {
            return NONE;
        }
        drawn = seed;
        for (int i = 0; i < n; i++) {
            history.keep(page);
            writeByDraws();
            scrapeByDraws();
            passYear();
        }
        return page.year;
    }

    public int status(int what) {
        return what < 0 || what >= refusals.length ? NONE : refusals[what];
    }

    public int undo() {
        return history.undoInto(page);
    }

    public int log(int i, int what) {
        if (i < 0 || i >= page.logLength || what < 0 || what > 2) {
            return NONE;
        }
        return log.told(page.logged - 1 - i, what);
    }

    public int shows(int cell) {
        return rules.hasCell(cell) ? page.shown(cell, rules.legible()) : NONE;
    }

    public int lamp(int cell) {
        return rules.hasCell(cell) ? page.lit(cell, rules.legible()) : NONE;
    }

    public int agrees(int writing, int spot, int what) {
        Writing told = shelf.writingAt(writing);
        if (what < 0 || what > 2 || !rules.does(told, spot)) {
            return NONE;
        }
        return lettersThat(what, page, told, spot);
    }

    public int may(int writing, int i) {
        Writing told = shelf.writingAt(writing);
        if (told == null || !rules.isSkin() || i < NONE) {
            return NONE;
        }
        int found = 0;
        for (int spot = 0; spot < rules.spots(); spot++) {
            if (standing(told, spot) > 0) {
                if (found == i) {
                    return spot;
                }
                found++;
            }
        }
        return i == NONE ? found : NONE;
    }

    public int best(int writing) {
        Writing told = shelf.writingAt(writing);
        int most = 0;
        int at = NONE;
        for (int spot = 0; told != null && spot < rules.spots(); spot++) {
            int agreeing = standing(told, spot);
            if (agreeing > most) {
                most = agreeing;
                at = spot;
            }
        }
        return at;
    }

    public int over(int one, int other) {
        return rules.hasHand(one) && rules.hasHand(other) ? page.pairs(one, other) : NONE;
    }

    public int order(int what) {
        if (!rules.isSkin() || what < 0 || what > 1) {
            return NONE;
        }
        for (int one = 0; one < rules.hands; one++) {
            for (int other = 0; other < rules.hands; other++) {
                ranking.judge(one, other, -page.pairs(one, other));
            }
        }
        ranking.seek(rules.hands, false);
        return what == 0 ? ranking.bestRow : -ranking.bestSum;
    }

    public int lost(int writing, int spot, int v) {
        Writing told = shelf.writingAt(writing);
        if (v < 1 || v > MOST_SIGNS || !rules.does(told, spot)) {
            return NONE;
        }
        loss.clear();
        for (int k = 0; k < told.size; k++) {
            int cell = rules.cellOf(told, k, spot);
            int amount = told.isLetter(k) ? page.hold(cell, told.signs[k], rules.legible()) : 0;
            if (amount > 0) {
                loss.add(rules.rowOf(cell), amount);
            }
        }
        return loss.least(loss.size - v + 1);
    }

    public int faded(int writing, int spot, int v) {
        Writing told = shelf.writingAt(writing);
        if (v < 1 || v > MOST_SIGNS || !rules.does(told, spot)) {
            return NONE;
        }
        trial.copyFrom(page);
        for (int passed = 0; passed <= 99; passed++) {
            if (lettersThat(AGREEING, trial, told, spot) < v) {
                return passed;
            }
            fadeLetters(told, spot, page.year + passed);
        }
        return NONE;
    }

    public int noted(int cell, int letter, boolean is) {
        if (!rules.hasCell(cell) || letter < 0 || letter >= LETTERS) {
            return NONE;
        }
        return notes.add(cell, letter, is);
    }

    public int fits(int i) {
        if (!rules.isSkin() || i < NONE) {
            return NONE;
        }
        int found = 0;
        for (int writing = 0; writing < shelf.writingCount; writing++) {
            for (int spot = 0; spot < rules.spots(); spot++) {
                if (isAsNoted(shelf.writingAt(writing), spot)) {
                    if (found == i) {
                        return 1000 * writing + spot;
                    }
                    found++;
                }
            }
        }
        return i == NONE ? found : NONE;
    }

    public int ask() {
        Arrays.fill(tally, 0);
        int found = 0;
        for (int writing = 0; writing < shelf.writingCount; writing++) {
            Writing told = shelf.writingAt(writing);
            for (int spot = 0; spot < rules.spots(); spot++) {
                if (isAsNoted(told, spot)) {
                    found++;
                    tallyLetters(told, spot);
                }
            }
        }
        return found == 0 ? NONE : tellingCell(found);
    }

    public int meets(int one, int other) {
        Writing ahead = shelf.writingAt(one);
        Writing behind = shelf.writingAt(other);
        return ahead == null || behind == null ? NONE : ahead.meeting(behind);
    }

    public int quire(int what) {
        if (shelf.writingCount == 0 || what < 0 || what > 1) {
            return NONE;
        }
        for (int one = 0; one < shelf.writingCount; one++) {
            for (int other = 0; other < shelf.writingCount; other++) {
                ranking.judge(one, other, meets(one, other));
            }
        }
        ranking.seek(shelf.writingCount, true);
        return what == 0 ? ranking.bestRow : ranking.bestSum;
    }

    public int game(int row, int x, int y, int what) {
        if (!rules.hasRow(row) || x < 0 || x >= SCRAPES || y < 0 || y >= LOOKS || what < 0 || what > 1) {
            return HIDDEN;
        }
        playOut(row);
        return what == 0 ? scraperHas[x] : readerHas[LOOKS * x + y];
    }

    public int rests(int row, int i) {
        if (!rules.hasRow(row) || i < NONE) {
            return NONE;
        }
        playOut(row);
        int found = 0;
        for (int x = 0; x < SCRAPES; x++) {
            for (int y = 0; y < LOOKS; y++) {
                if (isRest(x, y)) {
                    if (found == i) {
                        return 10 * x + y;
                    }
                    found++;
                }
            }
        }
        return i == NONE ? found : NONE;
    }

    public int odds(int writing, int spot, int chance, int v) {
        Writing told = shelf.writingAt(writing);
        if (chance < 0 || chance > 100 || v < 0 || v > MOST_SIGNS || !rules.does(told, spot)) {
            return NONE;
        }
        return (int) readRightly(ALL_PARTS, lettersThat(AGREEING, page, told, spot), v, chance);
    }

    public int shares(int hand, int c) {
        if (!rules.hasHand(hand) || c < 0 || c > 999) {
            return NONE;
        }
        int all = page.strengthInAll();
        return all == 0 ? 0 : c * page.strengthOf(hand) / all;
    }

    public int most(int what) {
        if (!rules.isSkin() || what < 0 || what > 9) {
            return NONE;
        }
        if (what == 0) {
            return page.layersInAll();
        }
        if (what == 1) {
            return page.strengthInAll();
        }
        if (what == 5 && page.layersInAll() == 0) {
            return NONE;
        }
        return what < 6 ? fullestBy(what) : cellsThat(what);
    }

    public int image() {
        if (!rules.isSkin()) {
            return NONE;
        }
        history.takeImage(page, log);
        return page.year;
    }

    public int back() {
        return history.goBack(page, log) ? page.year : NONE;
    }

    public int count(int what) {
        switch (what) {
            case 0:
                return rules.cells();
            case 1:
                return rules.hands;
            case 2:
                return shelf.lawCount;
            case 3:
                return shelf.writingCount;
            case 4:
                return tape.length;
            case 5:
                return shelf.holding;
            case 6:
                return page.year;
            case 7:
                return scribing;
            case 8:
                return notes.size;
            case 9:
                return page.logLength;
            case 10:
                return history.kept;
            default:
                return HIDDEN;
        }
    }

    private int refuse(int kind) {
        refusals[kind]++;
        return NONE;
    }

    private int takeSkin() {
        Rules former = rules;
        rules = nextRules;
        nextRules = former;
        page.blank(rules.coinsAtFirst());
        history.forget();
        notes.size = 0;
        return rules.cells();
    }

    private boolean hasRoom(Writing told, int spot) {
        for (int k = 0; k < told.size; k++) {
            if (told.isLetter(k) && page.heights[rules.cellOf(told, k, spot)] >= MOST_LAYERS) {
                return false;
            }
        }
        return true;
    }

    private void layDown(Writing told, int hand, int spot) {
        for (int k = 0; k < told.size; k++) {
            if (told.isLetter(k)) {
                page.lay(rules.cellOf(told, k, spot), told.signs[k], hand, rules.ofHand(hand, 0));
            }
        }
    }

    private int layersInRow(int row) {
        int sum = 0;
        for (int cell = rules.firstOf(row); cell < rules.firstOf(row + 1); cell++) {
            sum += page.heights[cell];
        }
        return sum;
    }

    private int scrapeRow(Page on, int row, int n) {
        int gone = 0;
        for (int cell = rules.firstOf(row); cell < rules.firstOf(row + 1); cell++) {
            gone += on.scrapeCell(cell, n);
        }
        return gone;
    }

    private void passYear() {
        int gone = 0;
        for (int cell = 0; cell < rules.cells(); cell++) {
            gone += fadeCell(page, cell, page.year);
        }
        log.put(page.logged, gone, page.strengthInAll(), cellsThat(7));
        page.logged++;
        page.logLength = Math.min(MOST_LOGGED, page.logLength + 1);
        page.year++;
    }

    private int fadeCell(Page on, int cell, int year) {
        int height = on.heights[cell];
        int row = rules.rowOf(cell);
        int left = 0;
        for (int i = 0; i < height; i++) {
            int code = on.codeAt(cell, i);
            int strength = Page.strengthIn(code) - fading(code, height - 1 - i, row, year % 100);
            if (strength > 0) {
                on.put(cell, left, Page.weakened(code, strength));
                left++;
            }
        }
        on.heights[cell] = left;
        return height - left;
    }

    private int fading(int code, int above, int row, int year) {
        int hand = Page.handIn(code);
        int fast = rules.ofHand(hand, 1);
        Law holds = shelf.lawThatHolds();
        if (holds == null) {
            return fast;
        }
        int worth = holds.worth(Page.strengthIn(code), above, fast, rules.ofHand(hand, 0), row, year);
        return Math.max(0, Math.min(9, worth));
    }

    private void fadeLetters(Writing told, int spot, int year) {
        for (int k = 0; k < told.size; k++) {
            if (told.isLetter(k)) {
                fadeCell(trial, rules.cellOf(told, k, spot), year);
            }
        }
    }

    private int draw(int j) {
        drawn = drawn * 6364136223846793005L + 1442695040888963407L;
        return j <= 0 ? 0 : (int) ((drawn >>> 33) % j);
    }

    private void writeByDraws() {
        if (draw(10) >= scribing || shelf.writingCount == 0) {
            return;
        }
        Writing told = shelf.writingAt(draw(shelf.writingCount));
        int hand = draw(rules.hands);
        int cell = draw(rules.cells());
        int spot = WAYS * cell + draw(WAYS);
        if (rules.does(told, spot) && hasRoom(told, spot)) {
            layDown(told, hand, spot);
        }
    }

    private void scrapeByDraws() {
        if (draw(10) < 3) {
            scrapeRow(page, draw(rules.rows()), 2);
        }
    }

    private int lettersThat(int what, Page on, Writing told, int spot) {
        int sum = 0;
        for (int k = 0; k < told.size; k++) {
            if (told.isLetter(k)
                    && on.verdict(rules.cellOf(told, k, spot), told.signs[k], rules.legible()) == what) {
                sum++;
            }
        }
        return sum;
    }

    /** How many letters agree where the writing may stand; 0 where it may not. */
    private int standing(Writing told, int spot) {
        if (!rules.does(told, spot) || lettersThat(AGAINST, page, told, spot) > 0) {
            return 0;
        }
        return lettersThat(AGREEING, page, told, spot);
    }

    private boolean isAsNoted(Writing told, int spot) {
        if (!rules.does(told, spot)) {
            return false;
        }
        for (int k = 0; k < notes.size; k++) {
            boolean there = rules.letterAt(told, spot, notes.cells[k]) == notes.letters[k];
            if (there != notes.is[k]) {
                return false;
            }
        }
        return true;
    }

    private void tallyLetters(Writing told, int spot) {
        for (int k = 0; k < told.size; k++) {
            if (told.isLetter(k)) {
                tally[rules.cellOf(told, k, spot) * (LETTERS + 1) + told.signs[k]]++;
            }
        }
    }

    private int tellingCell(int found) {
        int fewest = found + 1;
        int at = NONE;
        for (int cell = 0; cell < rules.cells(); cell++) {
            int largest = 0;
            int silent = found;
            for (int letter = 0; letter < LETTERS; letter++) {
                int alike = tally[cell * (LETTERS + 1) + letter];
                largest = Math.max(largest, alike);
                silent -= alike;
            }
            largest = Math.max(largest, silent);
            if (largest < fewest) {
                fewest = largest;
                at = cell;
            }
        }
        return at;
    }

    private void playOut(int row) {
        int before = legibleInRow(page, row);
        for (int x = 0; x < SCRAPES; x++) {
            trial.copyFrom(page);
            scrapeRow(trial, row, x);
            scraperHas[x] = 2 * (before - legibleInRow(trial, row)) - x;
            readRow(row, x);
        }
    }

    private int legibleInRow(Page on, int row) {
        int sum = 0;
        for (int cell = rules.firstOf(row); cell < rules.firstOf(row + 1); cell++) {
            sum += on.legibleIn(cell, rules.legible());
        }
        return sum;
    }

    private void readRow(int row, int x) {
        int shown = 0;
        int lit = 0;
        int beneath = 0;
        for (int cell = rules.firstOf(row); cell < rules.firstOf(row + 1); cell++) {
            shown += trial.shown(cell, rules.legible()) != NOTHING ? 1 : 0;
            lit += trial.lit(cell, rules.legible()) != NOTHING ? 1 : 0;
            beneath += trial.hasBeneath(cell, rules.legible()) ? 1 : 0;
        }
        readerHas[LOOKS * x] = shown;
        readerHas[LOOKS * x + 1] = lit - 1;
        readerHas[LOOKS * x + 2] = 3 * beneath - 2;
    }

    private boolean isRest(int x, int y) {
        for (int other = 0; other < SCRAPES; other++) {
            if (scraperHas[other] > scraperHas[x]) {
                return false;
            }
        }
        for (int other = 0; other < LOOKS; other++) {
            if (readerHas[LOOKS * x + other] > readerHas[LOOKS * x + y]) {
                return false;
            }
        }
        return true;
    }

    /**
     * Of a part that by which enough of the letters still to come are read rightly. Parts are never joined again,
     * as each is cut for itself; and none is divided for nothing, once its letters are enough or too few or it was
     * cut to nothing itself.
     */
    private static long readRightly(long part, int letters, int needed, int chance) {
        if (needed <= 0) {
            return part;
        }
        if (letters < needed || letters > MOST_SIGNS || part == 0) {
            return 0;
        }
        long misread = part * chance / 100;
        return readRightly(misread, letters - 1, needed, chance)
                + readRightly(part - misread, letters - 1, needed - 1, chance);
    }

    private int fullestBy(int what) {
        int kinds = what == 2 ? rules.cells() : what == 3 ? rules.rows() : what == 4 ? rules.hands : LETTERS;
        Arrays.fill(tally, 0);
        for (int cell = 0; cell < rules.cells(); cell++) {
            for (int i = 0; i < page.heights[cell]; i++) {
                int code = page.codeAt(cell, i);
                int kind = what == 2 ? cell : what == 3 ? rules.rowOf(cell)
                        : what == 4 ? Page.handIn(code) : Page.letterIn(code);
                tally[kind]++;
            }
        }
        int fullest = 0;
        for (int kind = 1; kind < kinds; kind++) {
            if (tally[kind] > tally[fullest]) {
                fullest = kind;
            }
        }
        return fullest;
    }

    private int cellsThat(int what) {
        int sum = 0;
        for (int cell = 0; cell < rules.cells(); cell++) {
            boolean so = what == 6 ? page.heights[cell] == 0
                    : what == 7 ? page.shown(cell, rules.legible()) != NOTHING
                    : what == 8 ? page.hasBeneath(cell, rules.legible())
                    : page.isPure(cell);
            sum += so ? 1 : 0;
        }
        return sum;
    }

    /** The bytes that were fed, and a cursor by which the texts are read from them. */
    private static final class Tape {
        static final int ROOM = 240;
        static final int END = -1;
        private final int[] bytes = new int[ROOM];
        private int length;
        private int at;

        int take(int a, int b, int c, int d, int e) {
            int before = length;
            boolean room = takeFour(a) && takeFour(b) && takeFour(c) && takeFour(d) && takeFour(e);
            if (!room) {
                length = before;
                return NONE;
            }
            return length;
        }

        private boolean takeFour(int four) {
            for (int shift = 24; shift >= 0; shift -= 8) {
                int one = four >>> shift & 255;
                if (one != 0) {
                    if (length >= ROOM) {
                        return false;
                    }
                    bytes[length] = one;
                    length++;
                }
            }
            return true;
        }

        boolean cut(int n) {
            if (n < 0 || n > length) {
                return false;
            }
            length = n;
            return true;
        }

        void rewind() {
            at = 0;
        }

        /** The next byte that is no blank, or END; the cursor stands at it. */
        int peek() {
            while (at < length && bytes[at] == ' ') {
                at++;
            }
            return at < length ? bytes[at] : END;
        }

        void step() {
            if (at < length) {
                at++;
            }
        }

        void stepBack() {
            if (at > 0) {
                at--;
            }
        }

        boolean eats(int wanted) {
            if (peek() != wanted) {
                return false;
            }
            step();
            return true;
        }

        /** Which of the letters comes next (NONE: none of them). */
        int peekAmong(String letters) {
            int next = peek();
            return next == END ? NONE : letters.indexOf((char) next);
        }

        boolean peeksDigit() {
            int next = peek();
            return next >= '0' && next <= '9';
        }

        /** A number; NONE, with the cursor at what is wrong: no digit, or one digit too many. */
        int number(int mostDigits) {
            int value = 0;
            int digits = 0;
            peek();
            while (at < length && bytes[at] >= '0' && bytes[at] <= '9') {
                if (digits == mostDigits) {
                    return NONE;
                }
                value = 10 * value + bytes[at] - '0';
                digits++;
                at++;
            }
            return digits == 0 ? NONE : value;
        }
    }

    /** What the text of a skin tells: its rules and hands; and where cells and places lie in it. */
    private static final class Rules {
        private static final String RULE_LETTERS = "wrlk";
        private static final int[] RULE_BOUNDS = {2, 8, 1, 5, 1, 9, 0, 99};
        private static final String HAND_LETTERS = "if";
        private static final int[] HAND_BOUNDS = {1, 9, 0, 9};
        private static final int HAND_ITEMS = 2;
        private static final int MOST_CLAUSES = 5;
        /** By ways: how many rows down and places right the next line begins, and the next sign comes. */
        private static final int[] LINE_DOWN = {1, 0, -1, 0};
        private static final int[] LINE_RIGHT = {0, -1, 0, 1};
        private static final int[] SIGN_DOWN = {0, 1, 0, -1};
        private static final int[] SIGN_RIGHT = {1, 0, -1, 0};

        private final int[] ruled = new int[4];
        private final int[] handed = new int[MOST_HANDS * HAND_ITEMS];
        private int hands;
        private boolean hasRules;

        boolean read(Tape tape) {
            ruled[0] = 6;
            ruled[1] = 4;
            ruled[2] = 3;
            ruled[3] = 20;
            hands = 0;
            hasRules = false;
            for (int clause = 0; clause <= MOST_CLAUSES; clause++) {
                if (!readClause(tape)) {
                    return false;
                }
                if (tape.peek() == Tape.END) {
                    return hands > 0;
                }
                if (!tape.eats(';')) {
                    return false;
                }
            }
            return false;
        }

        private boolean readClause(Tape tape) {
            int kind = tape.peek();
            if (kind == 's' && !hasRules) {
                hasRules = true;
                tape.step();
                return readItems(tape, RULE_LETTERS, RULE_BOUNDS, ruled, 0);
            }
            if (kind == 'h' && hands < MOST_HANDS) {
                int from = HAND_ITEMS * hands;
                handed[from] = 6;
                handed[from + 1] = 1;
                hands++;
                tape.step();
                return readItems(tape, HAND_LETTERS, HAND_BOUNDS, handed, from);
            }
            return false;
        }

        private static boolean readItems(Tape tape, String letters, int[] bounds, int[] into, int from) {
            int seen = 0;
            for (int i = 0; i < letters.length(); i++) {
                int which = tape.peekAmong(letters);
                if (which < 0 || (seen >> which & 1) == 1) {
                    return true;
                }
                seen |= 1 << which;
                tape.step();
                int value = readNumber(tape, bounds[2 * which], bounds[2 * which + 1]);
                if (value == NONE) {
                    return false;
                }
                into[from + which] = value;
            }
            return true;
        }

        private static int readNumber(Tape tape, int low, int high) {
            int value = tape.number(2);
            if (value != NONE && (value < low || value > high)) {
                tape.stepBack();
                return NONE;
            }
            return value;
        }

        boolean isSkin() {
            return hands > 0;
        }

        int wide() {
            return ruled[0];
        }

        int rows() {
            return ruled[1];
        }

        int legible() {
            return ruled[2];
        }

        int coinsAtFirst() {
            return ruled[3];
        }

        int cells() {
            return wide() * rows();
        }

        int spots() {
            return WAYS * cells();
        }

        boolean hasCell(int cell) {
            return cell >= 0 && cell < cells();
        }

        boolean hasRow(int row) {
            return row >= 0 && row < rows();
        }

        boolean hasHand(int hand) {
            return hand >= 0 && hand < hands;
        }

        int ofHand(int hand, int item) {
            return hasHand(hand) ? handed[HAND_ITEMS * hand + item] : 0;
        }

        int firstOf(int row) {
            return row * wide();
        }

        int rowOf(int cell) {
            return wide() == 0 ? 0 : cell / wide();
        }

        private int placeOf(int cell) {
            return cell - firstOf(rowOf(cell));
        }

        /**
         * Lines and signs go along different axes, so the last line and the longest one tell for all. A writing that
         * is none (null) does nowhere.
         */
        boolean does(Writing told, int spot) {
            if (told == null || spot < 0 || spot >= spots()) {
                return false;
            }
            int way = spot % WAYS;
            int lines = told.lines - 1;
            int signs = told.longest - 1;
            int row = rowOf(spot / WAYS) + lines * LINE_DOWN[way] + signs * SIGN_DOWN[way];
            int place = placeOf(spot / WAYS) + lines * LINE_RIGHT[way] + signs * SIGN_RIGHT[way];
            return hasRow(row) && place >= 0 && place < wide();
        }

        /** The cell of the k-th sign at a spot where the writing does. */
        int cellOf(Writing told, int k, int spot) {
            int way = spot % WAYS;
            int down = told.lineOf[k] * LINE_DOWN[way] + told.placeOf[k] * SIGN_DOWN[way];
            int right = told.lineOf[k] * LINE_RIGHT[way] + told.placeOf[k] * SIGN_RIGHT[way];
            return spot / WAYS + firstOf(down) + right;
        }

        /** What the writing at a spot tells of a cell: a letter, or NOTHING. */
        int letterAt(Writing told, int spot, int cell) {
            int way = spot % WAYS;
            int down = rowOf(cell) - rowOf(spot / WAYS);
            int right = placeOf(cell) - placeOf(spot / WAYS);
            int line = down * LINE_DOWN[way] + right * LINE_RIGHT[way];
            int place = down * SIGN_DOWN[way] + right * SIGN_RIGHT[way];
            int found = told.signAt(line, place);
            return found == NONE ? NOTHING : found;
        }
    }

    /** A law of fading, kept as steps that work on a stack. */
    private static final class Law {
        private static final String LETTER_SIGNS = "sdfiry";
        private static final String OPENING = "!(";
        private static final String COMPARING = "=<>";
        private static final String ADDING = "+-";
        private static final String MULTIPLYING = "*/";
        private static final int MOST_DIGITS = 4;
        private static final int MOST_WITHIN = 6;
        private static final int BOUND = 1000000;

        private static final int NUMBER = 0;
        private static final int LETTER = 1;
        private static final int PLUS = 2;
        private static final int MINUS = 3;
        private static final int TIMES = 4;
        private static final int DIVIDED = 5;
        private static final int EQUAL = 6;
        private static final int LESS = 7;
        private static final int GREATER = 8;
        private static final int NOT = 9;
        private static final int AND = 10;
        private static final int OR = 11;
        private static final int UNLESS = 12;
        private static final int RESULT = 13;
        private static final int STEP_BITS = 4;

        /** No sign of a text makes more than one step, so the room of the tape is enough. */
        private final int[] steps = new int[Tape.ROOM];
        private int length;
        private final int[] letters = new int[6];
        private final int[] stack = new int[32];
        private int top;

        boolean read(Tape tape) {
            length = 0;
            for (int clause = 0; clause < Tape.ROOM; clause++) {
                if (!readClause(tape)) {
                    return false;
                }
                if (tape.peek() == Tape.END) {
                    return true;
                }
                if (!tape.eats(';')) {
                    return false;
                }
            }
            return false;
        }

        /** Only behind its first sum can it be told whether a clause has a condition. */
        private boolean readClause(Tape tape) {
            if (!tape.eats('y') || !tape.eats(':')) {
                return false;
            }
            boolean begun = tape.peekAmong(OPENING) < 0;
            if (begun) {
                if (!readSum(tape, 0)) {
                    return false;
                }
                if (tape.peekAmong(COMPARING) < 0) {
                    add(RESULT, 0);
                    return true;
                }
            }
            if (!readCondition(tape, 0, begun) || !tape.eats('?')) {
                return false;
            }
            int jump = length;
            add(UNLESS, 0);
            if (!readSum(tape, 0)) {
                return false;
            }
            add(RESULT, 0);
            if (jump < steps.length) {
                steps[jump] = UNLESS | length << STEP_BITS;
            }
            return true;
        }

        /** Begun: its first sum has been read already. */
        private boolean readCondition(Tape tape, int within, boolean begun) {
            if (!readTruth(tape, within, begun)) {
                return false;
            }
            for (int i = 0; i < Tape.ROOM && tape.eats('|'); i++) {
                if (!readTruth(tape, within, false)) {
                    return false;
                }
                add(OR, 0);
            }
            return true;
        }

        private boolean readTruth(Tape tape, int within, boolean begun) {
            if (!readUnit(tape, within, begun)) {
                return false;
            }
            for (int i = 0; i < Tape.ROOM && tape.eats('&'); i++) {
                if (!readUnit(tape, within, false)) {
                    return false;
                }
                add(AND, 0);
            }
            return true;
        }

        private boolean readUnit(Tape tape, int within, boolean begun) {
            int opening = begun ? NONE : tape.peekAmong(OPENING);
            if (opening >= 0) {
                return readOpened(tape, within, opening == 0);
            }
            if (!begun && !readSum(tape, within)) {
                return false;
            }
            int which = tape.peekAmong(COMPARING);
            if (which < 0) {
                return false;
            }
            tape.step();
            if (!readSum(tape, within)) {
                return false;
            }
            add(EQUAL + which, 0);
            return true;
        }

        private boolean readOpened(Tape tape, int within, boolean denied) {
            if (within >= MOST_WITHIN) {
                return false;
            }
            tape.step();
            if (!denied) {
                return readCondition(tape, within + 1, false) && tape.eats(')');
            }
            if (!readUnit(tape, within + 1, false)) {
                return false;
            }
            add(NOT, 0);
            return true;
        }

        private boolean readSum(Tape tape, int within) {
            if (!readTerm(tape, within)) {
                return false;
            }
            for (int i = 0; i < Tape.ROOM; i++) {
                int which = tape.peekAmong(ADDING);
                if (which < 0) {
                    return true;
                }
                tape.step();
                if (!readTerm(tape, within)) {
                    return false;
                }
                add(PLUS + which, 0);
            }
            return true;
        }

        private boolean readTerm(Tape tape, int within) {
            if (!readAtom(tape, within)) {
                return false;
            }
            for (int i = 0; i < Tape.ROOM; i++) {
                int which = tape.peekAmong(MULTIPLYING);
                if (which < 0) {
                    return true;
                }
                tape.step();
                if (!readAtom(tape, within)) {
                    return false;
                }
                add(TIMES + which, 0);
            }
            return true;
        }

        private boolean readAtom(Tape tape, int within) {
            if (tape.peeksDigit()) {
                int value = tape.number(MOST_DIGITS);
                add(NUMBER, value);
                return value != NONE;
            }
            int letter = tape.peekAmong(LETTER_SIGNS);
            if (letter >= 0) {
                tape.step();
                add(LETTER, letter);
                return true;
            }
            if (within >= MOST_WITHIN || !tape.eats('[')) {
                return false;
            }
            return readSum(tape, within + 1) && tape.eats(']');
        }

        private void add(int step, int value) {
            if (length < steps.length) {
                steps[length] = step | value << STEP_BITS;
                length++;
            }
        }

        int worth(int s, int d, int f, int i, int r, int y) {
            letters[0] = s;
            letters[1] = d;
            letters[2] = f;
            letters[3] = i;
            letters[4] = r;
            letters[5] = y;
            top = 0;
            for (int at = 0; at < length; at++) {
                int step = steps[at] & (1 << STEP_BITS) - 1;
                int value = steps[at] >> STEP_BITS;
                if (step == RESULT) {
                    return pop();
                }
                if (step != UNLESS) {
                    run(step, value);
                } else if (pop() == 0) {
                    at = Math.max(at, value - 1);
                }
            }
            return 0;
        }

        private void run(int step, int value) {
            if (step == NUMBER) {
                push(value);
            } else if (step == LETTER) {
                push(value >= 0 && value < letters.length ? letters[value] : 0);
            } else if (step == NOT) {
                push(1 - pop());
            } else {
                int right = pop();
                int left = pop();
                push(held(joined(step, left, right)));
            }
        }

        private static long joined(int step, int left, int right) {
            switch (step) {
                case PLUS:
                    return left + right;
                case MINUS:
                    return left - right;
                case TIMES:
                    return (long) left * right;
                case DIVIDED:
                    return right == 0 ? 0 : left / right;
                case EQUAL:
                    return left == right ? 1 : 0;
                case LESS:
                    return left < right ? 1 : 0;
                case GREATER:
                    return left > right ? 1 : 0;
                case AND:
                    return left & right;
                default:
                    return left | right;
            }
        }

        private static int held(long value) {
            return (int) Math.max(-BOUND, Math.min(BOUND, value));
        }

        private void push(int value) {
            if (top < stack.length) {
                stack[top] = value;
                top++;
            }
        }

        private int pop() {
            if (top <= 0) {
                return 0;
            }
            top--;
            return stack[top];
        }
    }

    /** The signs of a writing, one line behind the other. */
    private static final class Writing {
        private final int[] signs = new int[MOST_SIGNS];
        private final int[] lineOf = new int[MOST_SIGNS];
        private final int[] placeOf = new int[MOST_SIGNS];
        private final int[] starts = new int[MOST_LINES];
        private final int[] lengths = new int[MOST_LINES];
        private int size;
        private int lines;
        private int longest;
        private int letters;

        boolean read(Tape tape) {
            size = 0;
            lines = 0;
            longest = 0;
            letters = 0;
            for (int line = 0; line < MOST_LINES; line++) {
                if (!readLine(tape, line)) {
                    return false;
                }
                int next = tape.peek();
                if (next == Tape.END) {
                    return letters > 0;
                }
                if (next != '/' || line + 1 == MOST_LINES) {
                    return false;
                }
                tape.step();
            }
            return false;
        }

        private boolean readLine(Tape tape, int line) {
            starts[line] = size;
            lengths[line] = 0;
            lines = line + 1;
            for (int place = 0; place <= MOST_IN_LINE; place++) {
                int next = tape.peek();
                if (next != '.' && (next < 'a' || next > 'z')) {
                    return place > 0;
                }
                if (place == MOST_IN_LINE || size >= MOST_SIGNS) {
                    return false;
                }
                signs[size] = next == '.' ? NOTHING : next - 'a';
                lineOf[size] = line;
                placeOf[size] = place;
                size++;
                letters += next == '.' ? 0 : 1;
                lengths[line] = place + 1;
                longest = Math.max(longest, place + 1);
                tape.step();
            }
            return false;
        }

        boolean isLetter(int k) {
            return signs[k] != NOTHING;
        }

        int signAt(int line, int place) {
            if (line < 0 || line >= lines || place < 0 || place >= lengths[line]) {
                return NONE;
            }
            return signs[starts[line] + place];
        }

        int meeting(Writing behind) {
            for (int alike = Math.min(lengths[0], behind.lengths[0]); alike > 0; alike--) {
                if (endsAsBegins(behind, alike)) {
                    return alike;
                }
            }
            return 0;
        }

        private boolean endsAsBegins(Writing behind, int alike) {
            for (int k = 0; k < alike; k++) {
                if (signAt(0, lengths[0] - alike + k) != behind.signAt(0, k)) {
                    return false;
                }
            }
            return true;
        }
    }

    /** The laws and writings, which outlast a skin. */
    private static final class Shelf {
        private final Law[] laws = new Law[MOST_LAWS];
        private final Writing[] writings = new Writing[MOST_WRITINGS];
        private Law nextLaw = new Law();
        private Writing nextWriting = new Writing();
        private int lawCount;
        private int writingCount;
        private int holding = NONE;

        int takeLaw() {
            if (lawCount >= MOST_LAWS) {
                return NONE;
            }
            laws[lawCount] = nextLaw;
            nextLaw = new Law();
            lawCount++;
            return lawCount - 1;
        }

        int takeWriting() {
            if (writingCount >= MOST_WRITINGS) {
                return NONE;
            }
            writings[writingCount] = nextWriting;
            nextWriting = new Writing();
            writingCount++;
            return writingCount - 1;
        }

        boolean lets(int law) {
            if (law < NONE || law >= lawCount) {
                return false;
            }
            holding = law;
            return true;
        }

        Law lawThatHolds() {
            return holding < 0 || holding >= lawCount ? null : laws[holding];
        }

        Writing writingAt(int writing) {
            return writing < 0 || writing >= writingCount ? null : writings[writing];
        }
    }

    /** All that an act can change: layers, coins, the year, how far the log goes. */
    private static final class Page {
        private static final int LETTER_SHIFT = 6;
        private static final int HAND_SHIFT = 4;

        /** By cells, from below: letter, hand and strength in one number. */
        private final int[] layers = new int[MOST_CELLS * MOST_LAYERS];
        private final int[] heights = new int[MOST_CELLS];
        private int coins;
        private int year;
        private int logged;
        private int logLength;

        static int letterIn(int code) {
            return code >> LETTER_SHIFT;
        }

        static int handIn(int code) {
            return code >> HAND_SHIFT & 3;
        }

        static int strengthIn(int code) {
            return code & 15;
        }

        static int weakened(int code, int strength) {
            return code - strengthIn(code) + strength;
        }

        void blank(int coinsThen) {
            Arrays.fill(heights, 0);
            coins = coinsThen;
            year = 0;
            logged = 0;
            logLength = 0;
        }

        void copyFrom(Page other) {
            System.arraycopy(other.layers, 0, layers, 0, layers.length);
            System.arraycopy(other.heights, 0, heights, 0, heights.length);
            coins = other.coins;
            year = other.year;
            logged = other.logged;
            logLength = other.logLength;
        }

        int codeAt(int cell, int i) {
            return layers[MOST_LAYERS * cell + i];
        }

        void put(int cell, int i, int code) {
            layers[MOST_LAYERS * cell + i] = code;
        }

        void lay(int cell, int letter, int hand, int strength) {
            if (heights[cell] < MOST_LAYERS) {
                put(cell, heights[cell], letter << LETTER_SHIFT | hand << HAND_SHIFT | strength);
                heights[cell]++;
            }
        }

        int scrapeCell(int cell, int n) {
            int before = heights[cell];
            int left = n;
            for (int i = before - 1; i >= 0 && left > 0; i--) {
                int strength = strengthIn(codeAt(cell, i));
                if (strength > left) {
                    put(cell, i, weakened(codeAt(cell, i), strength - left));
                } else {
                    heights[cell] = i;
                }
                left -= strength;
            }
            return before - heights[cell];
        }

        int shown(int cell, int legible) {
            int height = heights[cell];
            if (height == 0 || strengthIn(codeAt(cell, height - 1)) < legible) {
                return NOTHING;
            }
            return letterIn(codeAt(cell, height - 1));
        }

        int lit(int cell, int legible) {
            for (int i = 0; i < heights[cell]; i++) {
                if (strengthIn(codeAt(cell, i)) >= legible) {
                    return letterIn(codeAt(cell, i));
                }
            }
            return NOTHING;
        }

        boolean hasBeneath(int cell, int legible) {
            int lowest = lit(cell, legible);
            return lowest != NOTHING && lowest != shown(cell, legible);
        }

        boolean isPure(int cell) {
            for (int i = 1; i < heights[cell]; i++) {
                if (handIn(codeAt(cell, i)) != handIn(codeAt(cell, 0))) {
                    return false;
                }
            }
            return heights[cell] > 0;
        }

        int legibleIn(int cell, int legible) {
            int sum = 0;
            for (int i = 0; i < heights[cell]; i++) {
                sum += strengthIn(codeAt(cell, i)) >= legible ? 1 : 0;
            }
            return sum;
        }

        int verdict(int cell, int letter, int legible) {
            int found = GONE;
            for (int i = 0; i < heights[cell]; i++) {
                if (strengthIn(codeAt(cell, i)) >= legible) {
                    if (letterIn(codeAt(cell, i)) == letter) {
                        return AGREEING;
                    }
                    found = AGAINST;
                }
            }
            return found;
        }

        /** By how much a cell must be scraped until a letter does not agree in it (0: it does not now). */
        int hold(int cell, int letter, int legible) {
            int amount = 0;
            int above = 0;
            for (int i = heights[cell] - 1; i >= 0; i--) {
                int strength = strengthIn(codeAt(cell, i));
                if (strength >= legible && letterIn(codeAt(cell, i)) == letter) {
                    amount = above + strength - legible + 1;
                }
                above += strength;
            }
            return amount;
        }

        int layersInAll() {
            int sum = 0;
            for (int cell = 0; cell < MOST_CELLS; cell++) {
                sum += heights[cell];
            }
            return sum;
        }

        int strengthInAll() {
            int sum = 0;
            for (int hand = 0; hand < MOST_HANDS; hand++) {
                sum += strengthOf(hand);
            }
            return sum;
        }

        int layersOf(int hand) {
            int sum = 0;
            for (int cell = 0; cell < MOST_CELLS; cell++) {
                for (int i = 0; i < heights[cell]; i++) {
                    sum += handIn(codeAt(cell, i)) == hand ? 1 : 0;
                }
            }
            return sum;
        }

        int strengthOf(int hand) {
            int sum = 0;
            for (int cell = 0; cell < MOST_CELLS; cell++) {
                for (int i = 0; i < heights[cell]; i++) {
                    sum += handIn(codeAt(cell, i)) == hand ? strengthIn(codeAt(cell, i)) : 0;
                }
            }
            return sum;
        }

        /** How many layers of the one lie over layers of the other, pair by pair. */
        int pairs(int one, int other) {
            int sum = 0;
            for (int cell = 0; cell < MOST_CELLS; cell++) {
                int beneath = 0;
                for (int i = 0; i < heights[cell]; i++) {
                    int hand = handIn(codeAt(cell, i));
                    sum += hand == one ? beneath : 0;
                    beneath += hand == other ? 1 : 0;
                }
            }
            return sum;
        }
    }

    /** What years told. It holds as many more as acts can be undone, as those come to light again by that. */
    private static final class Log {
        private static final int ROOM = MOST_LOGGED + MOST_UNDONE;
        private static final int ITEMS = 3;
        private final int[] rows = new int[ROOM * ITEMS];

        void put(int number, int gone, int strength, int shown) {
            int from = Math.floorMod(number, ROOM) * ITEMS;
            rows[from] = gone;
            rows[from + 1] = strength;
            rows[from + 2] = shown;
        }

        int told(int number, int what) {
            return rows[Math.floorMod(number, ROOM) * ITEMS + what];
        }

        void copyFrom(Log other) {
            System.arraycopy(other.rows, 0, rows, 0, rows.length);
        }
    }

    /** How the page was: ahead of the latest acts, and in the image. */
    private static final class History {
        /** Made when first needed: most objects see far fewer acts than can be undone. */
        private final Page[] pages = new Page[MOST_UNDONE];
        private int next;
        private int kept;
        private final Page imaged = new Page();
        private final Log imagedLog = new Log();
        private boolean hasImage;

        void forget() {
            kept = 0;
            hasImage = false;
        }

        void keep(Page page) {
            if (pages[next] == null) {
                pages[next] = new Page();
            }
            pages[next].copyFrom(page);
            next = (next + 1) % MOST_UNDONE;
            kept = Math.min(MOST_UNDONE, kept + 1);
        }

        int undoInto(Page page) {
            int latest = (next + MOST_UNDONE - 1) % MOST_UNDONE;
            if (kept == 0 || pages[latest] == null) {
                return NONE;
            }
            page.copyFrom(pages[latest]);
            next = latest;
            kept--;
            return kept;
        }

        void takeImage(Page page, Log log) {
            imaged.copyFrom(page);
            imagedLog.copyFrom(log);
            hasImage = true;
        }

        boolean goBack(Page page, Log log) {
            if (!hasImage) {
                return false;
            }
            page.copyFrom(imaged);
            log.copyFrom(imagedLog);
            kept = 0;
            return true;
        }
    }

    /** What was noted of an unknown writing. */
    private static final class Notes {
        private final int[] cells = new int[MOST_NOTES];
        private final int[] letters = new int[MOST_NOTES];
        private final boolean[] is = new boolean[MOST_NOTES];
        private int size;

        int add(int cell, int letter, boolean there) {
            if (size >= MOST_NOTES) {
                return NONE;
            }
            cells[size] = cell;
            letters[size] = letter;
            is[size] = there;
            size++;
            return size;
        }
    }

    /** The letters that still agree, each with its row and the amount of scraping by which it is lost. */
    private static final class Loss {
        private static final int FAR = 1000000;
        private final int[] rowsOf = new int[MOST_SIGNS];
        private final int[] amounts = new int[MOST_SIGNS];
        private final int[] lostBy = new int[MOST_SIGNS];
        private final int[] leastFor = new int[MOST_SIGNS + 1];
        private int size;

        void clear() {
            size = 0;
        }

        void add(int row, int amount) {
            if (size < MOST_SIGNS) {
                rowsOf[size] = row;
                amounts[size] = amount;
                size++;
            }
        }

        /** The least amounts, added up, by which so many letters are lost. */
        int least(int needed) {
            if (needed <= 0) {
                return 0;
            }
            if (needed > size) {
                return NONE;
            }
            for (int k = 0; k < size; k++) {
                lostBy[k] = lostWith(k);
            }
            Arrays.fill(leastFor, FAR);
            leastFor[0] = 0;
            for (int row = 0; row < MOST_ROWS; row++) {
                for (int wanted = needed; wanted > 0; wanted--) {
                    leastFor[wanted] = leastWithRow(row, wanted);
                }
            }
            return leastFor[needed];
        }

        private int lostWith(int k) {
            int sum = 0;
            for (int other = 0; other < size; other++) {
                sum += rowsOf[other] == rowsOf[k] && amounts[other] <= amounts[k] ? 1 : 0;
            }
            return sum;
        }

        private int leastWithRow(int row, int wanted) {
            int least = leastFor[wanted];
            for (int k = 0; k < size; k++) {
                if (rowsOf[k] == row) {
                    least = Math.min(least, leastFor[Math.max(0, wanted - lostBy[k])] + amounts[k]);
                }
            }
            return least;
        }
    }

    /** Seeks, of all rows of the first numbers, the least one by which what was judged adds up to most. */
    private static final class Ranking {
        private static final int MOST_ROWS_OF_ALL = 720;
        private final int[] worths = new int[MOST_WRITINGS * MOST_WRITINGS];
        private final int[] row = new int[MOST_WRITINGS];
        private int bestRow;
        private int bestSum;

        void judge(int ahead, int behind, int worth) {
            worths[MOST_WRITINGS * ahead + behind] = worth;
        }

        /** Neighbours: only one and the next count, not all that stand behind. */
        void seek(int n, boolean neighbours) {
            for (int i = 0; i < n; i++) {
                row[i] = i;
            }
            bestRow = asDigits(n);
            bestSum = sumOf(n, neighbours);
            for (int i = 1; i < MOST_ROWS_OF_ALL && goOn(n); i++) {
                int sum = sumOf(n, neighbours);
                if (sum > bestSum) {
                    bestSum = sum;
                    bestRow = asDigits(n);
                }
            }
        }

        private int sumOf(int n, boolean neighbours) {
            int sum = 0;
            for (int i = 0; i < n; i++) {
                int last = neighbours ? Math.min(n, i + 2) : n;
                for (int j = i + 1; j < last; j++) {
                    sum += worths[MOST_WRITINGS * row[i] + row[j]];
                }
            }
            return sum;
        }

        private int asDigits(int n) {
            int digits = 0;
            for (int i = 0; i < n; i++) {
                digits = 10 * digits + row[i];
            }
            return digits;
        }

        /** To the next greater row; false behind the greatest. */
        private boolean goOn(int n) {
            int left = n - 2;
            while (left >= 0 && row[left] > row[left + 1]) {
                left--;
            }
            if (left < 0) {
                return false;
            }
            int right = n - 1;
            while (right > left && row[right] < row[left]) {
                right--;
            }
            swap(left, right);
            for (int i = left + 1, j = n - 1; i < j; i++, j--) {
                swap(i, j);
            }
            return true;
        }

        private void swap(int i, int j) {
            int former = row[i];
            row[i] = row[j];
            row[j] = former;
        }
    }
}
