import java.util.ArrayDeque;
import java.util.ArrayList;
import java.util.Deque;
import java.util.HashMap;
import java.util.List;
import java.util.Map;
import java.util.TreeMap;

/** The whole document once more, as naively as can be, to hold the class against. */
final class SkinModel {
    record Layer(int letter, int hand, int strength) {
    }

    record Placed(int row, int place, int letter) {
    }

    record State(List<List<Layer>> cells, int coins, int year, List<int[]> log) {
    }

    String tape = "";
    int wide;
    int rows;
    int legible;
    int coins;
    int year;
    int noise = 4;
    List<int[]> hands = new ArrayList<>();
    List<String> laws = new ArrayList<>();
    int holds = -1;
    List<String[]> writings = new ArrayList<>();
    List<List<Layer>> cells = new ArrayList<>();
    List<int[]> log = new ArrayList<>();
    Deque<State> past = new ArrayDeque<>();
    State image;
    List<Object[]> notes = new ArrayList<>();
    int[] status = new int[5];

    // ---- Texts ----

    int feed(int... five) {
        StringBuilder more = new StringBuilder();
        for (int one : five) {
            for (int k = 3; k >= 0; k--) {
                char sign = (char) (one >> 8 * k & 255);
                if (sign != 0) {
                    more.append(sign);
                }
            }
        }
        if (tape.length() + more.length() > 240) {
            return -1;
        }
        tape += more;
        return tape.length();
    }

    boolean end(int n) {
        if (n < 0 || n > tape.length()) {
            return false;
        }
        tape = tape.substring(0, n);
        return true;
    }

    int fault(int sort) {
        return sort == 0 ? skinFault() : sort == 1 ? LawModel.fault(tape) : sort == 2 ? writingFault() : -2;
    }

    /** Sign by sign, with what may come next held in a few words. */
    private int skinFault() {
        int handCount = 0;
        boolean ruled = false;
        char clause = 0;
        String seen = "";
        char item = 0;
        for (int i = 0; i < tape.length(); i++) {
            char c = tape.charAt(i);
            if (c == ' ') {
                continue;
            }
            if (clause == 0) {
                if (c == 's' && !ruled || c == 'h' && handCount < 4) {
                    clause = c;
                    ruled |= c == 's';
                    handCount += c == 'h' ? 1 : 0;
                    seen = "";
                    continue;
                }
                return i;
            }
            if (item != 0) {
                int to = i;
                while (to < tape.length() && Character.isDigit(tape.charAt(to))) {
                    to++;
                }
                if (to == i) {
                    return i;
                }
                if (to - i > 2) {
                    return i + 2;
                }
                int value = Integer.parseInt(tape.substring(i, to));
                int low = switch (item) { case 'w' -> 2; case 'r', 'l', 'i' -> 1; default -> 0; };
                int high = switch (item) { case 'w' -> 8; case 'r' -> 5; case 'k' -> 99; default -> 9; };
                if (value < low || value > high) {
                    return to - 1;
                }
                item = 0;
                i = to - 1;
                continue;
            }
            if (c == ';') {
                clause = 0;
                continue;
            }
            if ((clause == 's' ? "wrlk" : "if").indexOf(c) < 0 || seen.indexOf(c) >= 0) {
                return i;
            }
            seen += c;
            item = c;
        }
        return clause == 0 || item != 0 || handCount == 0 ? tape.length() : -1;
    }

    private int writingFault() {
        int inLine = 0;
        int inAll = 0;
        int lines = 1;
        boolean letter = false;
        for (int i = 0; i < tape.length(); i++) {
            char c = tape.charAt(i);
            if (c == ' ') {
                continue;
            }
            if (c == '/') {
                if (inLine == 0 || lines == 4) {
                    return i;
                }
                lines++;
                inLine = 0;
            } else if (c == '.' || c >= 'a' && c <= 'z') {
                inLine++;
                inAll++;
                letter |= c != '.';
                if (inLine > 8 || inAll > 16) {
                    return i;
                }
            } else {
                return i;
            }
        }
        return inLine == 0 || !letter ? tape.length() : -1;
    }

    int text(int sort) {
        if (fault(sort) != -1 || sort == 1 && laws.size() == 4 || sort == 2 && writings.size() == 6) {
            return -1;
        }
        String told = tape.replace(" ", "");
        tape = "";
        if (sort == 1) {
            laws.add(told);
            return laws.size() - 1;
        }
        if (sort == 2) {
            writings.add(told.split("/"));
            return writings.size() - 1;
        }
        wide = 6;
        rows = 4;
        legible = 3;
        coins = 20;
        hands.clear();
        for (String clause : told.split(";")) {
            Map<Character, Integer> items = new HashMap<>();
            for (String item : clause.substring(1).split("(?=[a-z])")) {
                if (!item.isEmpty()) {
                    items.put(item.charAt(0), Integer.parseInt(item.substring(1)));
                }
            }
            if (clause.charAt(0) == 's') {
                wide = items.getOrDefault('w', 6);
                rows = items.getOrDefault('r', 4);
                legible = items.getOrDefault('l', 3);
                coins = items.getOrDefault('k', 20);
            } else {
                hands.add(new int[] {items.getOrDefault('i', 6), items.getOrDefault('f', 1)});
            }
        }
        cells = new ArrayList<>();
        for (int i = 0; i < wide * rows; i++) {
            cells.add(new ArrayList<>());
        }
        year = 0;
        log = new ArrayList<>();
        past.clear();
        image = null;
        notes.clear();
        return wide * rows;
    }

    // ---- The state told ----

    boolean none() {
        return hands.isEmpty();
    }

    int rule(int what) {
        return none() || what < 0 || what > 3 ? -1 : new int[] {wide, rows, legible, coins}[what];
    }

    int hand(int hand, int what) {
        if (hand < 0 || hand >= hands.size() || what < 0 || what > 3) {
            return -77;
        }
        int layers = 0;
        int strength = 0;
        for (List<Layer> cell : cells) {
            for (Layer layer : cell) {
                if (layer.hand == hand) {
                    layers++;
                    strength += layer.strength;
                }
            }
        }
        return new int[] {hands.get(hand)[0], hands.get(hand)[1], layers, strength}[what];
    }

    private static int letter(char sign) {
        return sign == '.' ? 26 : sign - 'a';
    }

    int sign(int writing, int line, int i) {
        if (writing < 0 || writing >= writings.size() || line < 0 || line >= writings.get(writing).length
                || i < 0 || i >= writings.get(writing)[line].length()) {
            return -1;
        }
        return letter(writings.get(writing)[line].charAt(i));
    }

    int layer(int cell, int i, int what) {
        if (cell < 0 || cell >= cells.size() || i < 0 || i >= cells.get(cell).size() || what < 0 || what > 2) {
            return -1;
        }
        Layer layer = cells.get(cell).get(i);
        return new int[] {layer.letter, layer.hand, layer.strength}[what];
    }

    boolean law(int law) {
        if (law < -1 || law >= laws.size()) {
            return false;
        }
        holds = law;
        return true;
    }

    boolean scribes(int v) {
        if (v < 0 || v > 9 || v == noise) {
            return false;
        }
        noise = v;
        return true;
    }

    // ---- Acts ----

    private static List<List<Layer>> copy(List<List<Layer>> of) {
        List<List<Layer>> to = new ArrayList<>();
        for (List<Layer> cell : of) {
            to.add(new ArrayList<>(cell));
        }
        return to;
    }

    private State state() {
        return new State(copy(cells), coins, year, new ArrayList<>(log));
    }

    private void become(State then) {
        cells = copy(then.cells);
        coins = then.coins;
        year = then.year;
        log = new ArrayList<>(then.log);
    }

    private void act() {
        past.addLast(state());
        if (past.size() > 40) {
            past.removeFirst();
        }
    }

    private int refused(int kind) {
        status[kind]++;
        return -1;
    }

    /** The letters of a writing with where they come to lie (signs left free as 26); null: it does not do there. */
    private List<Placed> placed(int writing, int cell, int way) {
        if (writing < 0 || writing >= writings.size() || cell < 0 || cell >= cells.size() || way < 0 || way > 3) {
            return null;
        }
        List<Placed> all = new ArrayList<>();
        int startRow = cell / wide;
        int startPlace = cell % wide;
        for (String line : writings.get(writing)) {
            int row = startRow;
            int place = startPlace;
            for (char sign : line.toCharArray()) {
                if (row < 0 || row >= rows || place < 0 || place >= wide) {
                    return null;
                }
                all.add(new Placed(row, place, letter(sign)));
                switch (way) {
                    case 0 -> place++;
                    case 1 -> row++;
                    case 2 -> place--;
                    default -> row--;
                }
            }
            switch (way) {
                case 0 -> startRow++;
                case 1 -> startPlace--;
                case 2 -> startRow--;
                default -> startPlace++;
            }
        }
        return all;
    }

    private List<Placed> placed(int writing, int spot) {
        return spot < 0 ? null : placed(writing, spot / 4, spot % 4);
    }

    private List<Layer> at(Placed sign) {
        return cells.get(sign.row * wide + sign.place);
    }

    private boolean room(List<Placed> signs) {
        return signs.stream().allMatch(sign -> sign.letter == 26 || at(sign).size() < 6);
    }

    private void lay(List<Placed> signs, int hand) {
        for (Placed sign : signs) {
            if (sign.letter != 26) {
                at(sign).add(new Layer(sign.letter, hand, hands.get(hand)[0]));
            }
        }
    }

    int write(int writing, int hand, int cell, int way) {
        if (none() || writing < 0 || writing >= writings.size() || hand < 0 || hand >= hands.size()) {
            return refused(0);
        }
        List<Placed> signs = placed(writing, cell, way);
        if (signs == null) {
            return refused(1);
        }
        int cost = writings.get(writing).length;
        if (coins < cost || !room(signs)) {
            return refused(3);
        }
        act();
        coins -= cost;
        lay(signs, hand);
        return most(0);
    }

    /** Takes strength away one by one. */
    private void scrapeCell(List<Layer> cell, int n) {
        for (int i = 0; i < n && !cell.isEmpty(); i++) {
            Layer top = cell.remove(cell.size() - 1);
            if (top.strength > 1) {
                cell.add(new Layer(top.letter, top.hand, top.strength - 1));
            }
        }
    }

    private void scrapeRow(int row, int n) {
        for (int place = 0; place < wide; place++) {
            scrapeCell(cells.get(row * wide + place), n);
        }
    }

    int scrape(int row, int n) {
        if (none()) {
            return refused(0);
        }
        if (row < 0 || row >= rows || n < 1 || n > 9) {
            return refused(1);
        }
        if (cells.subList(row * wide, row * wide + wide).stream().allMatch(List::isEmpty)) {
            return refused(2);
        }
        if (coins == 0) {
            return refused(3);
        }
        int before = most(0);
        act();
        coins--;
        scrapeRow(row, n);
        return before - most(0);
    }

    private void fadeAll(int inYear) {
        List<List<Layer>> then = new ArrayList<>();
        for (int c = 0; c < cells.size(); c++) {
            List<Layer> cell = cells.get(c);
            List<Layer> left = new ArrayList<>();
            for (int i = 0; i < cell.size(); i++) {
                Layer layer = cell.get(i);
                int[] hand = hands.get(layer.hand);
                int less = hand[1];
                if (holds >= 0) {
                    less = LawModel.worth(laws.get(holds), layer.strength, cell.size() - 1 - i, hand[1], hand[0],
                            c / wide, inYear % 100);
                    less = less < 0 ? 0 : less > 9 ? 9 : less;
                }
                if (layer.strength > less) {
                    left.add(new Layer(layer.letter, layer.hand, layer.strength - less));
                }
            }
            then.add(left);
        }
        cells = then;
    }

    private void pass() {
        int before = most(0);
        fadeAll(year);
        log.add(0, new int[] {before - most(0), most(1), most(7)});
        if (log.size() > 60) {
            log.remove(60);
        }
        year++;
    }

    int ages(int n) {
        if (none()) {
            return refused(0);
        }
        if (n < 1 || n > 30) {
            return refused(1);
        }
        if (year + n > 999) {
            return refused(4);
        }
        for (int i = 0; i < n; i++) {
            act();
            pass();
        }
        return year;
    }

    int give(int n) {
        if (none()) {
            return refused(0);
        }
        if (n < 1 || n > 50 || coins + n > 999) {
            return refused(1);
        }
        act();
        coins += n;
        return coins;
    }

    private long x;

    private int draw(int j) {
        x = x * 6364136223846793005L + 1442695040888963407L;
        return (int) Long.remainderUnsigned(x >>> 33, j);
    }

    int years(int n, long seed) {
        if (none() || n < 1 || n > 30 || year + n > 999) {
            return -1;
        }
        x = seed;
        for (int i = 0; i < n; i++) {
            act();
            if (draw(10) < noise && !writings.isEmpty()) {
                int writing = draw(writings.size());
                int hand = draw(hands.size());
                int cell = draw(cells.size());
                int way = draw(4);
                List<Placed> signs = placed(writing, cell, way);
                if (signs != null && room(signs)) {
                    lay(signs, hand);
                }
            }
            if (draw(10) < 3) {
                scrapeRow(draw(rows), 2);
            }
            pass();
        }
        return year;
    }

    int status(int what) {
        return what < 0 || what > 4 ? -1 : status[what];
    }

    int undo() {
        if (past.isEmpty()) {
            return -1;
        }
        become(past.removeLast());
        return past.size();
    }

    int log(int i, int what) {
        return i < 0 || i >= log.size() || what < 0 || what > 2 ? -1 : log.get(i)[what];
    }

    // ---- Apart ----

    private boolean readable(Layer layer) {
        return layer.strength >= legible;
    }

    private int showsIn(List<Layer> cell) {
        return cell.isEmpty() || !readable(cell.get(cell.size() - 1)) ? 26 : cell.get(cell.size() - 1).letter;
    }

    private int lampIn(List<Layer> cell) {
        return cell.stream().filter(this::readable).findFirst().map(Layer::letter).orElse(26);
    }

    private boolean beneath(List<Layer> cell) {
        return lampIn(cell) != 26 && (showsIn(cell) == 26 || showsIn(cell) != lampIn(cell));
    }

    int shows(int cell) {
        return cell < 0 || cell >= cells.size() ? -1 : showsIn(cells.get(cell));
    }

    int lamp(int cell) {
        return cell < 0 || cell >= cells.size() ? -1 : lampIn(cells.get(cell));
    }

    int agrees(int writing, int spot, int what) {
        List<Placed> signs = placed(writing, spot);
        if (signs == null || what < 0 || what > 2) {
            return -1;
        }
        int[] sums = new int[3];
        for (Placed sign : signs) {
            if (sign.letter != 26) {
                boolean same = at(sign).stream().anyMatch(l -> readable(l) && l.letter == sign.letter);
                boolean any = at(sign).stream().anyMatch(this::readable);
                sums[same ? 0 : any ? 2 : 1]++;
            }
        }
        return sums[what];
    }

    private List<Integer> places(int writing) {
        List<Integer> all = new ArrayList<>();
        for (int spot = 0; spot < 4 * cells.size(); spot++) {
            if (agrees(writing, spot, 2) == 0 && agrees(writing, spot, 0) > 0) {
                all.add(spot);
            }
        }
        return all;
    }

    private static int ith(List<Integer> of, int i) {
        return i == -1 ? of.size() : i >= 0 && i < of.size() ? of.get(i) : -1;
    }

    int may(int writing, int i) {
        return none() || writing < 0 || writing >= writings.size() ? -1 : ith(places(writing), i);
    }

    int best(int writing) {
        int best = -1;
        for (int spot : none() ? List.<Integer>of() : places(writing)) {
            if (best < 0 || agrees(writing, spot, 0) > agrees(writing, best, 0)) {
                best = spot;
            }
        }
        return best;
    }

    int over(int one, int other) {
        if (one < 0 || one >= hands.size() || other < 0 || other >= hands.size()) {
            return -1;
        }
        int pairs = 0;
        for (List<Layer> cell : cells) {
            for (int low = 0; low < cell.size(); low++) {
                for (int high = low + 1; high < cell.size(); high++) {
                    pairs += cell.get(high).hand == one && cell.get(low).hand == other ? 1 : 0;
                }
            }
        }
        return pairs;
    }

    /** All rows of the digits below n, each once, rising. */
    private static List<String> digitRows(int n) {
        List<String> done = List.of("");
        for (int length = 0; length < n; length++) {
            List<String> longer = new ArrayList<>();
            for (String row : done) {
                for (char digit = '0'; digit < '0' + n; digit++) {
                    if (row.indexOf(digit) < 0) {
                        longer.add(row + digit);
                    }
                }
            }
            done = longer;
        }
        return done;
    }

    int order(int what) {
        if (none() || what < 0 || what > 1) {
            return -1;
        }
        TreeMap<Integer, Integer> leastRow = new TreeMap<>();
        for (String row : digitRows(hands.size())) {
            int otherwise = 0;
            for (int one = 0; one < hands.size(); one++) {
                for (int other = 0; other < hands.size(); other++) {
                    if (row.indexOf('0' + one) < row.indexOf('0' + other)) {
                        otherwise += over(one, other);
                    }
                }
            }
            leastRow.merge(otherwise, Integer.parseInt(row), Math::min);
        }
        return what == 0 ? leastRow.firstEntry().getValue() : leastRow.firstKey();
    }

    int lost(int writing, int spot, int v) {
        List<Placed> signs = placed(writing, spot);
        if (signs == null || v < 1 || v > 16) {
            return -1;
        }
        State before = state();
        // How many still agree in each row behind each amount; 54 takes all there can be.
        int[][] left = new int[rows][55];
        for (int amount = 0; amount <= 54; amount++) {
            become(before);
            for (int row = 0; row < rows; row++) {
                scrapeRow(row, amount);
            }
            for (Placed sign : signs) {
                if (sign.letter != 26 && at(sign).stream().anyMatch(l -> readable(l) && l.letter == sign.letter)) {
                    left[sign.row][amount]++;
                }
            }
        }
        become(before);
        return leastScraping(left, 0, v - 1, new HashMap<>());
    }

    private int leastScraping(int[][] left, int row, int allowed, Map<Integer, Integer> known) {
        if (row == left.length) {
            return 0;
        }
        Integer already = known.get(100 * row + allowed);
        if (already != null) {
            return already;
        }
        int least = Integer.MAX_VALUE;
        for (int amount = 0; amount <= 54; amount++) {
            if (left[row][amount] <= allowed) {
                least = Math.min(least,
                        amount + leastScraping(left, row + 1, allowed - left[row][amount], known));
            }
        }
        known.put(100 * row + allowed, least);
        return least;
    }

    int faded(int writing, int spot, int v) {
        if (placed(writing, spot) == null || v < 1 || v > 16) {
            return -1;
        }
        State before = state();
        int answer = -1;
        for (int passed = 0; passed <= 99 && answer < 0; passed++) {
            if (agrees(writing, spot, 0) < v) {
                answer = passed;
            }
            fadeAll(before.year + passed);
        }
        become(before);
        return answer;
    }

    int noted(int cell, int letter, boolean is) {
        if (cell < 0 || cell >= cells.size() || letter < 0 || letter > 25 || notes.size() == 10) {
            return -1;
        }
        notes.add(new Object[] {cell, letter, is});
        return notes.size();
    }

    private int tells(int writing, int spot, int cell) {
        for (Placed sign : placed(writing, spot)) {
            if (sign.row * wide + sign.place == cell) {
                return sign.letter;
            }
        }
        return 26;
    }

    private List<Integer> fitting() {
        List<Integer> all = new ArrayList<>();
        for (int writing = 0; writing < writings.size(); writing++) {
            for (int spot = 0; spot < 4 * cells.size(); spot++) {
                if (placed(writing, spot) == null) {
                    continue;
                }
                boolean so = true;
                for (Object[] note : notes) {
                    boolean there = tells(writing, spot, (Integer) note[0]) == (Integer) note[1];
                    so &= there == (Boolean) note[2];
                }
                if (so) {
                    all.add(1000 * writing + spot);
                }
            }
        }
        return all;
    }

    int fits(int i) {
        return none() ? -1 : ith(fitting(), i);
    }

    int ask() {
        List<Integer> all = fitting();
        int best = -1;
        int fewest = Integer.MAX_VALUE;
        for (int cell = 0; cell < cells.size() && !all.isEmpty(); cell++) {
            Map<Integer, Integer> alike = new HashMap<>();
            int most = 0;
            for (int one : all) {
                most = Math.max(most, alike.merge(tells(one / 1000, one % 1000, cell), 1, Integer::sum));
            }
            if (most < fewest) {
                fewest = most;
                best = cell;
            }
        }
        return best;
    }

    int meets(int one, int other) {
        if (one < 0 || one >= writings.size() || other < 0 || other >= writings.size()) {
            return -1;
        }
        String ahead = writings.get(one)[0];
        String behind = writings.get(other)[0];
        int most = 0;
        for (int n = 1; n <= behind.length(); n++) {
            if (ahead.endsWith(behind.substring(0, n))) {
                most = n;
            }
        }
        return most;
    }

    int quire(int what) {
        if (writings.isEmpty() || what < 0 || what > 1) {
            return -1;
        }
        int most = -1;
        String best = "";
        for (String row : digitRows(writings.size())) {
            int sum = 0;
            for (int i = 1; i < row.length(); i++) {
                sum += meets(row.charAt(i - 1) - '0', row.charAt(i) - '0');
            }
            if (sum > most) {
                most = sum;
                best = row;
            }
        }
        return what == 0 ? Integer.parseInt(best) : most;
    }

    int game(int row, int gx, int y, int what) {
        if (row < 0 || row >= rows || gx < 0 || gx > 3 || y < 0 || y > 2 || what < 0 || what > 1) {
            return -1000000;
        }
        State before = state();
        List<List<Layer>> own = cells.subList(row * wide, row * wide + wide);
        long readableBefore = own.stream().flatMap(List::stream).filter(this::readable).count();
        scrapeRow(row, gx);
        long readableThen = own.stream().flatMap(List::stream).filter(this::readable).count();
        long cellsRead = own.stream().filter(
                cell -> y == 0 ? showsIn(cell) != 26 : y == 1 ? lampIn(cell) != 26 : beneath(cell)).count();
        become(before);
        return (int) (what == 0 ? 2 * (readableBefore - readableThen) - gx : cellsRead * (y == 2 ? 3 : 1) - y);
    }

    int rests(int row, int i) {
        if (row < 0 || row >= rows) {
            return -1;
        }
        List<Integer> all = new ArrayList<>();
        for (int gx = 0; gx <= 3; gx++) {
            for (int y = 0; y <= 2; y++) {
                boolean rest = true;
                for (int other = 0; other <= 3; other++) {
                    rest &= game(row, other, y, 0) <= game(row, gx, y, 0);
                }
                for (int other = 0; other <= 2; other++) {
                    rest &= game(row, gx, other, 1) <= game(row, gx, y, 1);
                }
                if (rest) {
                    all.add(10 * gx + y);
                }
            }
        }
        return ith(all, i);
    }

    int odds(int writing, int spot, int chance, int v) {
        if (placed(writing, spot) == null || chance < 0 || chance > 100 || v < 0 || v > 16) {
            return -1;
        }
        int letters = agrees(writing, spot, 0);
        long sum = 0;
        for (int misread = 0; misread < 1 << letters; misread++) {
            long part = 1000000000L;
            for (int i = 0; i < letters; i++) {
                long cut = part * chance / 100;
                part = (misread >> i & 1) == 1 ? cut : part - cut;
            }
            sum += letters - Integer.bitCount(misread) >= v ? part : 0;
        }
        return (int) sum;
    }

    int shares(int hand, int c) {
        if (hand < 0 || hand >= hands.size() || c < 0 || c > 999) {
            return -1;
        }
        return most(1) == 0 ? 0 : c * hand(hand, 3) / most(1);
    }

    private static int firstMost(int... sums) {
        int best = 0;
        for (int i = 0; i < sums.length; i++) {
            best = sums[i] > sums[best] ? i : best;
        }
        return best;
    }

    int most(int what) {
        if (none() || what < 0 || what > 9) {
            return -1;
        }
        int layers = 0;
        int strength = 0;
        int[] byCell = new int[cells.size()];
        int[] byRow = new int[rows];
        int[] byHand = new int[hands.size()];
        int[] byLetter = new int[26];
        int[] kinds = new int[4];
        for (int c = 0; c < cells.size(); c++) {
            List<Layer> cell = cells.get(c);
            for (Layer layer : cell) {
                layers++;
                strength += layer.strength;
                byCell[c]++;
                byRow[c / wide]++;
                byHand[layer.hand]++;
                byLetter[layer.letter]++;
            }
            kinds[0] += cell.isEmpty() ? 1 : 0;
            kinds[1] += showsIn(cell) != 26 ? 1 : 0;
            kinds[2] += beneath(cell) ? 1 : 0;
            kinds[3] += cell.stream().mapToInt(Layer::hand).distinct().count() == 1 ? 1 : 0;
        }
        return switch (what) {
            case 0 -> layers;
            case 1 -> strength;
            case 2 -> firstMost(byCell);
            case 3 -> firstMost(byRow);
            case 4 -> firstMost(byHand);
            case 5 -> layers == 0 ? -1 : firstMost(byLetter);
            default -> kinds[what - 6];
        };
    }

    int image() {
        if (none()) {
            return -1;
        }
        image = state();
        return year;
    }

    int back() {
        if (image == null) {
            return -1;
        }
        become(image);
        past.clear();
        return year;
    }

    int count(int what) {
        int[] all = {cells.size(), hands.size(), laws.size(), writings.size(), tape.length(), holds, year, noise,
            notes.size(), log.size(), past.size()};
        return what < 0 || what >= all.length ? -1000000 : all[what];
    }
}
