import java.util.function.Consumer;

/** The boundaries of the tape, the texts, their faults and their sums: Terms 1, promises 1 to 5, 8, 10 and 41. */
public final class EdgeTextTest {
    private static final String[] ITEMS = {"sw 2 8 6", "sr 1 5 4", "sl 1 9 3", "sk 0 99 20", "hi 1 9 6", "hf 0 9 1"};

    public static void main(String[] args) {
        newObject();
        feedTakesTwentyBytes();
        feedToTheEndOfTheTape();
        endWithinTheTape();
        noSuchSort();
        clausesOfASkin();
        itemsOfASkin();
        numbersOfASkin();
        withoutItems();
        emptyAndTooEarly();
        blanks();
        clausesOfALaw();
        numbersOfALaw();
        atomsAndConditions();
        sixWithinOneAnother();
        sumsHeld();
        divisions();
        precedence();
        firstClauseThatHolds();
        linesOfAWriting();
        signsOfAWriting();
        fourLaws();
        behindAFault();
        sixWritings();
        textRefused();
        textOfASecondSkin();
        lawThatHolds();
        signsToldBack();
        Checks.end();
    }

    private static void fault(int sort, String text, int want) {
        Checks.same("fault(" + sort + ") of '" + text + "'", Checks.faultOf(new ScrapedSkin(), sort, text), want);
        boolean taken = Checks.tell(new ScrapedSkin(), sort, text) != ScrapedSkin.NONE;
        Checks.same("text(" + sort + ") of '" + text + "' is taken", taken, want == ScrapedSkin.NONE);
    }

    private static String many(String text, int n) {
        return text.repeat(n);
    }

    /** Promise 1: No SKIN. */
    private static void newObject() {
        ScrapedSkin x = new ScrapedSkin();
        Checks.same("no cells", x.count(0), 0);
        Checks.same("no hands", x.count(1), 0);
        Checks.same("no law holds", x.count(5), ScrapedSkin.NONE);
        Checks.same("scribes at first", x.count(7), 4);
        Checks.same("no such count above", x.count(11), ScrapedSkin.HIDDEN);
        Checks.same("no such count below", x.count(-1), ScrapedSkin.HIDDEN);
        Checks.same("the last count", x.count(10), 0);
        for (int sort = 0; sort < 3; sort++) {
            Checks.same("an empty tape ends too early, as sort " + sort, x.fault(sort), 0);
            Checks.same("and is no text", x.text(sort), ScrapedSkin.NONE);
        }
    }

    /** Promise 2: of each number the highest first; bytes of 0 are left out. */
    private static void feedTakesTwentyBytes() {
        ScrapedSkin x = new ScrapedSkin();
        Checks.same("no byte", x.feed(0, 0, 0, 0, 0), 0);
        Checks.same("one byte, the lowest of the last number", x.feed(0, 0, 0, 0, 'a'), 1);
        Checks.same("one byte, the highest of the first", x.feed('b' << 24, 0, 0, 0, 0), 2);
        Checks.same("bytes of 0 between", x.feed(0x00630064, 0x65000066, 0, 0, 0x67006800), 8);
        Checks.same("a writing", x.text(2), 0);
        for (int i = 0; i < 8; i++) {
            Checks.same("sign " + i + " in the order of the bytes", x.sign(0, 0, i), i);
        }
        Checks.same("twenty", x.feed(-1, -1, -1, -1, -1), 20);
        Checks.same("a byte of 255 is a byte", x.feed(255, 0, 0, 0, 0), 21);
        Checks.same("a byte of 128, too", x.feed(128 << 24, 0, 0, 0, 0), 22);
        Checks.same("and one of 1", x.feed(1, 0, 0, 0, 0), 23);
    }

    /** Promise 2: NONE: more than 240. */
    private static void feedToTheEndOfTheTape() {
        for (int before = 218; before <= 240; before++) {
            for (int more = 0; more <= 20; more++) {
                ScrapedSkin x = new ScrapedSkin();
                Checks.feed(x, "h" + many(" ", before - 1));
                boolean room = before + more <= 240;
                Checks.same(before + " and " + more + " bytes", Checks.feed(x, many(" ", more)),
                        more == 0 ? before : room ? before + more : ScrapedSkin.NONE);
                Checks.same("the tape has", x.count(4), room ? before + more : before);
            }
        }
        Edges.silent("241", x -> Checks.feed(x, "h" + many(" ", 220)), x -> x.feed(-1, -1, -1, -1, -1), -1);
        Edges.silent("none of the bytes is taken", x -> Checks.feed(x, "h" + many(" ", 238)),
                x -> x.feed(0, 0, 0, 0, 0x2020), -1);
        ScrapedSkin x = new ScrapedSkin();
        Checks.feed(x, many(" ", 239));
        Checks.same("two are one too many", x.feed(0x6868, 0, 0, 0, 0), -1);
        Checks.same("one goes on", x.feed('h', 0, 0, 0, 0), 240);
        Checks.same("a full tape is a text", x.fault(0), -1);
        Checks.same("nothing more than 240", x.feed(0, 0, 0, 0, 0), 240);
        Checks.same("one more", x.feed(0, 0, 1, 0, 0), -1);
        Checks.same("taken from a full tape", x.text(0), 24);
        Checks.same("empty then", x.feed(0, 0, 0, 0, 0), 0);
    }

    /** Promise 3: The TAPE has its first n bytes alone. False: n. */
    private static void endWithinTheTape() {
        ScrapedSkin x = new ScrapedSkin();
        Checks.same("the first 0 of an empty tape", x.end(0), true);
        Checks.same("1 of an empty tape", x.end(1), false);
        Checks.feed(x, "abc");
        Checks.same("its first three", x.end(3), true);
        Checks.same("has three", x.count(4), 3);
        Checks.same("its first two", x.end(2), true);
        Checks.same("has two", x.count(4), 2);
        Checks.same("three are gone", x.end(3), false);
        Checks.feed(x, "z");
        Checks.same("more comes behind the two", x.text(2), 0);
        Checks.same("a", x.sign(0, 0, 0), 0);
        Checks.same("b", x.sign(0, 0, 1), 1);
        Checks.same("z", x.sign(0, 0, 2), 25);
        for (int n : new int[] {4, 5, 241, -1, -2, Edges.MIN, Edges.MAX}) {
            Edges.silent("end " + n, s -> Checks.feed(s, "abc"), s -> Edges.one(s.end(n)), 0);
        }
        Edges.silent("no byte less", s -> Checks.feed(s, "abc"), s -> Edges.one(s.end(3)), 1);
    }

    /** Promises 4 and 5: -2: no such sort; NONE: no such sort. */
    private static void noSuchSort() {
        for (int sort : new int[] {3, 4, -1, -2, Edges.MIN, Edges.MAX}) {
            Edges.silent("fault " + sort, x -> Checks.feed(x, "h"), x -> x.fault(sort), -2);
            Edges.silent("text " + sort, x -> Checks.feed(x, "h"), x -> x.text(sort), -1);
        }
        for (int sort = 0; sort < 3; sort++) {
            int one = sort;
            Edges.silent("fault changes nothing", x -> Checks.feed(x, "hello"), x -> x.fault(one),
                    one == 0 ? 1 : one == 1 ? 0 : -1);
        }
    }

    /** s (its RULES; one at most), h (a HAND; 1 .. 4), in any order. */
    private static void clausesOfASkin() {
        for (int hands = 0; hands <= 5; hands++) {
            String all = many(";h", hands).substring(hands == 0 ? 0 : 1);
            if (hands > 0) {
                fault(0, all, hands < 5 ? -1 : 8);
                fault(0, "s;" + all, hands < 5 ? -1 : 10);
                fault(0, all + ";s", hands < 5 ? -1 : 8);
                fault(0, all + ";s;s", hands < 4 ? 2 * hands + 2 : hands == 4 ? 10 : 8);
            }
            ScrapedSkin x = new ScrapedSkin();
            Checks.tell(x, 0, hands == 0 ? "s" : all);
            Checks.same(hands + " hands", x.count(1), hands > 4 ? 0 : hands);
        }
        fault(0, "s", 1);
        fault(0, "s;s;h", 2);
        fault(0, "h;s;h;s;h", 6);
        fault(0, "h;s;h;h;h", -1);
        fault(0, "h;h;h;s;h", -1);
        fault(0, "h;h;h;s;h;h", 10);
        fault(0, "s;h;h;h;h;s", 10);
        fault(0, "h;h;h;h;x", 8);
        fault(0, "s;h;h;h;h; h", 11);
        fault(0, "s;h;h;h;h; s", 11);
        fault(0, "s;h;h;h;h; ", 11);
        fault(0, "s;h;h;h;h ", -1);
        fault(0, ";", 0);
        fault(0, "h;;", 2);
        fault(0, "g", 0);
        fault(0, "i", 0);
        fault(0, "t", 0);
    }

    /** ITEMS, none or more: a letter, each once at most in a CLAUSE; a letter that was there, at it. */
    private static void itemsOfASkin() {
        fault(0, "swrlk", 2);
        fault(0, "sw2r1l1k0;h", -1);
        fault(0, "sk0l1r1w2;h", -1);
        for (String letter : new String[] {"w", "r", "l", "k"}) {
            fault(0, "s" + letter + "5" + letter + "5;h", 3);
            fault(0, "s" + letter + "5" + letter, 3);
            fault(0, "h" + letter + "5", 1);
        }
        for (String letter : new String[] {"i", "f"}) {
            fault(0, "h" + letter + "5" + letter + "5", 3);
            fault(0, "h" + letter + "5;h" + letter + "5;h" + letter + "5;h" + letter + "5", -1);
            fault(0, "s" + letter + "5;h", 1);
        }
        fault(0, "sw5r5l5k5w5;h", 9);
        fault(0, "sw5r5l5k5k", 9);
        fault(0, "hi5f5i5", 5);
        fault(0, "hi5f5f5", 5);
        fault(0, "sW5;h", 1);
        fault(0, "sx5;h", 1);
    }

    /** A number out of bounds is wrong at its last digit, a third digit itself, whatever stands ahead of it. */
    private static void numbersOfASkin() {
        for (String item : ITEMS) {
            String[] told = item.split(" ");
            String head = told[0];
            int low = Integer.parseInt(told[1]);
            int high = Integer.parseInt(told[2]);
            for (int value = Math.max(0, low - 1); value <= Math.min(99, high + 1); value++) {
                boolean within = value >= low && value <= high;
                fault(0, whole(head, "" + value), within ? -1 : head.length() + ("" + value).length() - 1);
                if (value < 10) {
                    fault(0, whole(head, "0" + value), within ? -1 : head.length() + 1);
                }
                if (within) {
                    Checks.same(head + value, itemOf(head, whole(head, "" + value)), value);
                    Checks.same(head + " of two digits", itemOf(head, whole(head, (value < 10 ? "0" : "") + value)),
                            value);
                }
            }
            fault(0, head, head.length());
            fault(0, whole(head, ""), head.equals("hi") || head.equals("hf") ? 2 : head.length());
            for (String three : new String[] {"000", "001", "100", "999", "0055", "123"}) {
                fault(0, whole(head, three), head.length() + 2);
            }
            fault(0, whole(head, "-1"), head.length());
            fault(0, whole(head, "x"), head.length());
        }
    }

    private static String whole(String head, String number) {
        return head.charAt(0) == 'h' ? head + number : head + number + ";h";
    }

    private static int itemOf(String head, String text) {
        ScrapedSkin x = new ScrapedSkin();
        Checks.tell(x, 0, text);
        return head.charAt(0) == 'h' ? Checks.hand(x, 0, head.charAt(1) == 'i' ? 0 : 1)
                : x.rule("wrlk".indexOf(head.charAt(1)));
    }

    /** (6 without), (4), (3), (20); (6), (1). */
    private static void withoutItems() {
        for (String text : new String[] {"h", "s;h", "h;s"}) {
            ScrapedSkin x = new ScrapedSkin();
            Checks.same("cells of '" + text + "'", Checks.tell(x, 0, text), 24);
            for (String item : ITEMS) {
                String[] told = item.split(" ");
                Checks.same(told[0] + " without", itemOf(told[0], text), Integer.parseInt(told[3]));
            }
        }
        ScrapedSkin x = new ScrapedSkin();
        Checks.tell(x, 0, "sw2r1l9k99;hi9f9");
        Checks.same("told otherwise", Checks.tell(x, 0, "h;s"), 24);
        Checks.same("and legible as without", x.rule(2), 3);
        Checks.same("and the ink", Checks.hand(x, 0, 0), 6);
        Checks.same("and how fast it fades", Checks.hand(x, 0, 1), 1);
        Checks.same("the least", Checks.tell(x, 0, "sw2r1;h"), 2);
        Checks.same("the most", Checks.tell(x, 0, "sw8r5;h"), 40);
    }

    /** The length, if it ends too early, without a HAND, without a letter. */
    private static void emptyAndTooEarly() {
        for (int sort = 0; sort < 3; sort++) {
            fault(sort, "", 0);
            fault(sort, "  ", 2);
        }
        fault(0, "sw2r1l1k0", 9);
        fault(0, "s ", 2);
        fault(0, "s;", 2);
        fault(0, "h;", 2);
        fault(0, "h; ", 3);
        fault(0, "hi", 2);
        fault(0, "hi ", 3);
        fault(0, "h;h;h;h;", 8);
        fault(1, "y", 1);
        fault(1, "y:", 2);
        fault(1, "y: ", 3);
        fault(1, "y:1+", 4);
        fault(1, "y:1;", 4);
        fault(1, "y:1=1", 5);
        fault(1, "y:1=1?", 6);
        fault(1, "y:[1", 4);
        fault(1, "y:(1=1", 6);
        fault(1, "y:(1=1)", 7);
        fault(1, "y:!", 3);
        fault(2, ".", 1);
        fault(2, "./. ", 4);
        fault(2, "a/", 2);
        fault(2, "./a", -1);
    }

    /** Blanks (32) may stand between all signs of all three, not within numbers. */
    private static void blanks() {
        fault(0, "  s  w  3  r  2  ;  h  i  9  f  0  ;  h  ", -1);
        fault(0, "sw 0 5;h", 3);
        fault(0, "sk1 0;h", 4);
        fault(0, "sk10 0;h", 5);
        fault(0, "hi5 ", -1);
        fault(0, "hi5 5", 4);
        fault(1, "  y  :  !  (  s  =  1  )  ?  [  2  ]  ;  y  :  3  ", -1);
        fault(1, "y:1 0", 4);
        fault(1, "y:1000 0", 7);
        fault(2, "  a  .  /  b  ", -1);
        for (int sort = 0; sort < 3; sort++) {
            String text = new String[] {"s w3;h", "y :1", "a b"}[sort];
            for (char sign : new char[] {9, 10, 13, 31, 33, 160, 1}) {
                fault(sort, text.replace(' ', sign), 1);
            }
            fault(sort, text, -1);
        }
    }

    /** LAWS are TEXTS: CLAUSES with ; between, one at least: y, : , perhaps CONDITION ?, then SUM. */
    private static void clausesOfALaw() {
        fault(1, "y:1", -1);
        fault(1, "Y:1", 0);
        fault(1, "x:1", 0);
        fault(1, ":1", 0);
        fault(1, "y1", 1);
        fault(1, "y;1", 1);
        fault(1, "yy:1", 1);
        fault(1, "y::1", 2);
        fault(1, "y:1;;y:1", 4);
        fault(1, "y:1y:1", 3);
        fault(1, "y:1;y:1;", 8);
        fault(1, "y:1;h", 4);
        fault(1, many("y:1;", 59) + "y:01", -1);
        fault(1, "y:1=1?1;y:1=1?1", -1);
        fault(1, "y:1=1;y:1", 5);
        fault(1, "y:1=1??1", 6);
        fault(1, "y:?1", 2);
        fault(1, "y:1?1", 3);
        fault(1, "y:1=1?1?1", 7);
        fault(1, "y:1=1?1=1", 7);
        fault(1, "y:1=1?!1=1", 6);
        fault(1, "y:1=1?(1)", 6);
    }

    /** A number (1 to 4 digits); a fifth one in a LAW itself. */
    private static void numbersOfALaw() {
        fault(1, "y:0", -1);
        fault(1, "y:9", -1);
        fault(1, "y:0000", -1);
        fault(1, "y:9999", -1);
        fault(1, "y:00000", 6);
        fault(1, "y:99999", 6);
        fault(1, "y:123456", 6);
        fault(1, "y:[12345]", 7);
        fault(1, "y:1+12345", 8);
        fault(1, "y:1=12345?1", 8);
        fault(1, "y:-1", 2);
        fault(1, "y:1+-1", 4);
        fault(1, "y:1.5", 3);
        Checks.same("0009 is 9", left("y:0009"), 0);
        Checks.same("0008 is 8", left("y:0008"), 1);
    }

    /** A letter (s d f i r y); CONDITION: TRUTHS with | between; TRUTH: UNITS with & between. */
    private static void atomsAndConditions() {
        for (char letter = 'a'; letter <= 'z'; letter++) {
            boolean is = "sdfiry".indexOf(letter) >= 0;
            fault(1, "y:" + letter, is ? -1 : 2);
            fault(1, "y:" + letter + "=1?1", is ? -1 : 2);
        }
        fault(1, "y:S", 2);
        fault(1, "y:ss", 3);
        fault(1, "y:s1", 3);
        fault(1, "y:1s", 3);
        fault(1, "y:[]", 3);
        fault(1, "y:[1", 4);
        fault(1, "y:[1]]", 5);
        fault(1, "y:[1)", 4);
        fault(1, "y:1)", 3);
        fault(1, "y:(1)", 4);
        fault(1, "y:([1])", 6);
        fault(1, "y:(1=1)1", 7);
        fault(1, "y:(1=1)=1?1", 7);
        fault(1, "y:(1=1]?1", 6);
        fault(1, "y:[1=1]?1", 4);
        fault(1, "y:1=1=1?1", 5);
        fault(1, "y:1<>1?1", 4);
        fault(1, "y:!1?1", 4);
        fault(1, "y:!1", 4);
        fault(1, "y:1=!1?1", 4);
        fault(1, "y:1=(1)?1", 4);
        fault(1, "y:1!1?1", 3);
        fault(1, "y:1=1&&1=1?1", 6);
        fault(1, "y:1=1||1=1?1", 6);
        fault(1, "y:1=1&!1=1|(1=1)?1", -1);
        fault(1, "y:1|1=1?1", 3);
        fault(1, "y:1=1|1?1", 7);
        fault(1, "y:1+*1", 4);
        fault(1, "y:*1", 2);
        fault(1, "y:1*;y:1", 4);
        fault(1, "y:1+;y:1", 4);
        fault(1, "y:[1+]", 5);
        fault(1, "y:[1*]", 5);
        fault(1, "y:1=?1", 4);
        fault(1, "y:1=1&?1", 6);
        fault(1, "y:1=1|?1", 6);
        fault(1, "y:(1=1&)?1", 7);
        fault(1, "y:!?1", 3);
    }

    /** At most six of ( [ ! within one another; a seventh of ( [ ! at it. */
    private static void sixWithinOneAnother() {
        for (int deep = 5; deep <= 8; deep++) {
            int at = deep <= 6 ? -1 : 8;
            fault(1, "y:" + many("[", deep) + "1" + many("]", deep), at);
            fault(1, "y:" + many("(", deep) + "1=1" + many(")", deep) + "?1", at);
            fault(1, "y:" + many("!", deep) + "1=1?1", at);
            fault(1, "y:1=1?" + many("[", deep) + "1" + many("]", deep), at < 0 ? at : 12);
            fault(1, "y:1=" + many("[", deep) + "1" + many("]", deep) + "?1", at < 0 ? at : 10);
            fault(1, "y:1+" + many("[", deep) + "1" + many("]", deep), at < 0 ? at : 10);
            fault(1, "y:1=1&" + many("!", deep) + "1=1?1", at < 0 ? at : 12);
            fault(1, "y:1=1|" + many("(", deep) + "1=1" + many(")", deep) + "?1", at < 0 ? at : 12);
        }
        fault(1, "y:!(!(!([1]=1)))?1", 8);
        fault(1, "y:!(!(!(1=1)))?1", -1);
        fault(1, "y:!(!([[1]]=1))?1", -1);
        fault(1, "y:!(!([[1]]=[[1]]))?1", -1);
        fault(1, "y:!(!([[1]]=[[[1]]]))?1", 14);
        fault(1, "y:(((((!1=1)))))?1", -1);
        fault(1, "y:(((((![1]=1)))))?1", 8);
        fault(1, "y:(((((!1=1|1=[1])))))?1", -1);
        fault(1, "y:[1]+[1]+[1]+[1]+[1]+[1]+[1]", -1);
        fault(1, "y:[[[[[[1]*[1]]]]]]", -1);
        fault(1, "y:[[[[[[1*[1]]]]]]]", 10);
        fault(1, "y:!1=1&!1=1&!1=1&!1=1&!1=1&!1=1&!1=1?1", -1);
        fault(1, "y:!!!!!!1=1&!!!!!!1=1|!!!!!!!1=1?1", 28);
        fault(1, "y:[[[[[[1]]]]]];y:[[[[[[1]]]]]]", -1);
        fault(1, "y:[[[[[[1]]]]]];y:[[[[[[[1]]]]]]]", 24);
    }

    /** What is left of a layer of 9, the lowest of two in the row 2, behind the first year by a law. */
    private static int left(String law) {
        ScrapedSkin x = Checks.skin("sw2r3;hi9f4;hi8f0", "a", "b");
        Checks.same("law '" + law + "'", Checks.tell(x, 1, law), 0);
        x.law(0);
        x.write(0, 0, 4, 0);
        x.write(1, 1, 4, 0);
        x.ages(1);
        return x.layer(4, 0, 0) == 0 ? x.layer(4, 0, 2) : 0;
    }

    private static void holds(String condition, boolean want) {
        Checks.same("'" + condition + "' holds", left("y:" + condition + "?1;y:2") == 8, want);
    }

    /** Behind each sign numbers are within -1,000,000 .. 1,000,000. */
    private static void sumsHeld() {
        holds("1000*1000>999*1000+999", true);
        holds("1000*1000-1=999*1000+999", true);
        holds("1000*1000+1=1000*1000", true);
        holds("1000*1000+1-1=999*1000+999", true);
        holds("1000*1000-1+1=1000*1000", true);
        holds("1001*1000=1000*1000", true);
        holds("1000*1001-1=999*1000+999", true);
        holds("9999*9999=1000*1000", true);
        holds("9999*9999*9999*9999=1000*1000", true);
        holds("[0-1000]*1000<0-999*1000-999", true);
        holds("0-999*1000-1000=[0-1000]*1000", true);
        holds("0-999*1000-1001=[0-1000]*1000", true);
        holds("0-999*1000-1001+1=0-999*1000-999", true);
        holds("[0-1001]*1000=[0-1000]*1000", true);
        holds("[0-9999]*9999=[0-1000]*1000", true);
        holds("9999*9999*[0-9999]=[0-1000]*1000", true);
        holds("[0-9999]*9999*[0-9999]=1000*1000", true);
        holds("[1000*1000]+[1000*1000]=1000*1000", true);
        holds("0-1000*1000-1000*1000=[0-1000]*1000", true);
        holds("9999*9999/9999=100", true);
        holds("9999*101-9999*101=0", true);
        holds("9999=9998+1", true);
    }

    /** / cuts towards 0, by 0 gives 0. */
    private static void divisions() {
        holds("7/2=3", true);
        holds("8/2=4", true);
        holds("[0-7]/2=0-3", true);
        holds("7/[0-2]=0-3", true);
        holds("[0-7]/[0-2]=3", true);
        holds("1/2=0", true);
        holds("[0-1]/2=0", true);
        holds("5/0=0", true);
        holds("0/0=0", true);
        holds("[0-5]/0=0", true);
        holds("0/5=0", true);
        holds("1000*1000/[0-1]=[0-1000]*1000", true);
        holds("5/[s-s]+3=3", true);
    }

    private static void precedence() {
        holds("2+3*4=14", true);
        holds("[2+3]*4=20", true);
        holds("9-4-3=2", true);
        holds("9-[4-3]=8", true);
        holds("8/4*2=4", true);
        holds("8*3/4=6", true);
        holds("3/4*8=0", true);
        holds("1=1|1=1&1=2", true);
        holds("(1=1|1=1)&1=2", false);
        holds("1=2&1=1|1=1", true);
        holds("1=2&1=1", false);
        holds("1=1&1=2", false);
        holds("1<2&1=1", true);
        holds("1=1&2>1", true);
        holds("1<2&2>1", true);
        holds("1<2|1=2", true);
        holds("!1<2", false);
        holds("!2>1", false);
        holds("!1=1", false);
        holds("!(1<2&2>1)", false);
        holds("!1=2&1=2", false);
        holds("!(1=2&1=2)", true);
        holds("!1=1|1=1", true);
        holds("!(1=1|1=1)", false);
        holds("!!1=1", true);
        holds("!!!1=1", false);
        holds("1<1", false);
        holds("1<2", true);
        holds("1>1", false);
        holds("2>1", true);
        holds("1=2", false);
        holds("1=1|1=2|1=2", true);
        holds("1=2|1=2|1=2", false);
        holds("1=1&1=1&1=2", false);
        holds("s=9&d=1&f=4&i=9&r=2&y=0", true);
    }

    /** WORTH: the SUM of the first CLAUSE whose CONDITION holds (or has none), 0 without. */
    private static void firstClauseThatHolds() {
        Checks.same("none holds", left("y:1=2?5"), 9);
        Checks.same("none of two holds", left("y:1=2?5;y:2=3?6"), 9);
        Checks.same("the first holds", left("y:1=1?5;y:6"), 4);
        Checks.same("the second has none", left("y:1=2?5;y:6"), 3);
        Checks.same("the first has none", left("y:5;y:1=1?6"), 4);
        Checks.same("the last of many", left(many("y:1<1?5;", 29) + "y:6"), 3);
        Checks.same("none of many", left(many("y:1<1?5;", 29) + "y:1<1?5"), 9);
    }

    /** LINES with / between, 1 to 4; a LINE: 1 to 8 SIGNS; the / ahead of a fifth LINE at it, a ninth SIGN at it. */
    private static void linesOfAWriting() {
        fault(2, "a", -1);
        fault(2, "a/b/c", -1);
        fault(2, "a/b/c/d", -1);
        fault(2, "a/b/c/d/", 7);
        fault(2, "a/b/c/d/e", 7);
        fault(2, "a / b / c / d / e", 14);
        fault(2, "/a", 0);
        fault(2, "a//b", 2);
        fault(2, "a/ /b", 3);
        fault(2, "a/", 2);
        fault(2, "./././a", -1);
        fault(2, "./././.", 7);
        fault(2, "././././", 7);
        fault(2, "abcdefg", -1);
        fault(2, "abcdefgh", -1);
        fault(2, "abcdefghi", 8);
        fault(2, "abcdefgh.", 8);
        fault(2, "a b c d e f g h i", 16);
        fault(2, "a/bcdefghij", 10);
        fault(2, ".......a", -1);
        fault(2, "........a", 8);
        fault(2, "abcdefgh/", 9);
    }

    /** At most 16 SIGNS in all, a 17th at it; a letter a .. z, or .; one of them a letter at the least. */
    private static void signsOfAWriting() {
        fault(2, "abcdefgh/abcdefg", -1);
        fault(2, "abcdefgh/abcdefgh", -1);
        fault(2, "abcdefgh/abcdefgh/a", 18);
        fault(2, "abcdefgh/abcdefgh/.", 18);
        fault(2, "abcdefgh/abcdefgh/", 18);
        fault(2, "abcdefgh/abcdefgh//", 18);
        fault(2, "abcde/abcde/abcdef", -1);
        fault(2, "abcde/abcde/abcdefg", 18);
        fault(2, "abcd/abcd/abcd/abcd", -1);
        fault(2, "abcd/abcd/abcd/abcde", 19);
        fault(2, "abcd/abcd/abcd/abcd/", 19);
        fault(2, "abcd/abcd/abcd/abcd/a", 19);
        fault(2, "......../........", 17);
        fault(2, "......../.......z", -1);
        fault(2, "......../......../a", 18);
        fault(2, "z", -1);
        fault(2, "`", 0);
        fault(2, "{", 0);
        fault(2, "-", 0);
        fault(2, "A", 0);
        fault(2, "Z", 0);
        fault(2, "a1", 1);
        fault(2, "a;b", 1);
        fault(2, ".", 1);
        fault(2, ".a", -1);
        fault(2, "a.", -1);
    }

    /** LAWS (4 at most); promise 5: NONE: there are four LAWS. */
    private static void fourLaws() {
        ScrapedSkin x = new ScrapedSkin();
        for (int i = 0; i < 4; i++) {
            Checks.same("law " + i, Checks.tell(x, 1, "y:" + i), i);
            Checks.same("laws", x.count(2), i + 1);
            Checks.same("the tape is empty", x.count(4), 0);
            Checks.same("none holds by that", x.count(5), -1);
        }
        Edges.silent("a fifth", s -> tellLaws(s, "y:5"), s -> s.text(1), -1);
        Edges.silent("it has no fault", s -> tellLaws(s, "y:5"), s -> s.fault(1), -1);
        Edges.silent("a fifth with a fault", s -> tellLaws(s, "y:"), s -> s.text(1), -1);
        tellLaws(x, "a");
        Checks.same("a writing is still taken", x.text(2), 0);
        Checks.same("each law is its own", x.write(0, 0, 0, 0), 1);
        for (int i = 0; i < 4; i++) {
            Checks.same("law " + i + " holds", x.law(i), true);
            x.ages(1);
            Checks.same("and fades by " + i, x.most(1), 6 - i);
            x.undo();
        }
    }

    /** A text in which a FAULT was found leaves nothing behind in the one that is told next. */
    private static void behindAFault() {
        ScrapedSkin x = new ScrapedSkin();
        Checks.same("a skin ahead", Checks.faultOf(x, 0, "sw2r1l9k99;hi9f9;hi9f9;x"), 23);
        Checks.same("then another", Checks.tell(x, 0, "h;s"), 24);
        Checks.same("one hand", x.count(1), 1);
        Checks.same("its ink", Checks.hand(x, 0, 0), 6);
        Checks.same("legible", x.rule(2), 3);
        Checks.same("a writing ahead", Checks.faultOf(x, 2, "abcdefgh/b/c/d/e"), 14);
        Checks.same("then another writing", Checks.tell(x, 2, "z"), 0);
        Checks.same("its sign", x.sign(0, 0, 0), 25);
        Checks.same("no second sign", x.sign(0, 0, 1), -1);
        Checks.same("no second line", x.sign(0, 1, 0), -1);
        Checks.same("it does everywhere, by each way", x.fits(-1), 96);
        Checks.same("letters ahead", Checks.faultOf(x, 2, "ab/c1"), 4);
        Checks.same("are no letters of this", Checks.faultOf(x, 2, "./."), 3);
        Checks.same("a law ahead", Checks.faultOf(x, 1, "y:1=1?5;y:6;"), 12);
        Checks.same("then another law", Checks.tell(x, 1, "y:1"), 0);
        x.law(0);
        x.write(0, 0, 23, 2);
        x.ages(1);
        Checks.same("that fades by 1", x.most(1), 5);
        Checks.same("a fault looked at leaves what was told alone", Checks.faultOf(x, 1, "y:5;"), 4);
        Checks.same("so does a writing", Checks.faultOf(x, 2, "abc/"), 4);
        Checks.same("and a skin", Checks.faultOf(x, 0, "sw2;hi1;"), 8);
        x.ages(1);
        Checks.same("still by 1", x.most(1), 4);
        Checks.same("still a z", x.sign(0, 0, 0), 25);
        Checks.same("still as wide", x.rule(0), 6);
        Checks.same("still its ink", Checks.hand(x, 0, 0), 6);
    }

    private static void tellLaws(ScrapedSkin x, String tape) {
        Checks.tell(x, 0, "sw2r1;h");
        for (int i = 0; i < 4; i++) {
            Checks.tell(x, 1, "y:" + i);
        }
        x.end(0);
        Checks.feed(x, tape);
    }

    /** WRITINGS (6 at most); promise 5: NONE: there are six WRITINGS. */
    private static void sixWritings() {
        ScrapedSkin x = new ScrapedSkin();
        for (int i = 0; i < 6; i++) {
            Checks.same("writing " + i, Checks.tell(x, 2, "a" + (char) ('a' + i)), i);
            Checks.same("writings", x.count(3), i + 1);
            Checks.same("the tape is empty", x.count(4), 0);
        }
        Consumer<ScrapedSkin> six = s -> {
            Checks.tell(s, 0, "sw2r1;h");
            for (int i = 0; i < 6; i++) {
                Checks.tell(s, 2, "a" + (char) ('a' + i));
            }
            s.end(0);
            Checks.feed(s, "gg");
        };
        Edges.silent("a seventh", six, s -> s.text(2), -1);
        Edges.silent("it has no fault", six, s -> s.fault(2), -1);
        Checks.same("a law is still taken", Checks.tell(x, 1, "y:1"), 0);
        Checks.same("a skin, too", Checks.tell(x, 0, "h"), 24);
        Checks.same("six still", x.count(3), 6);
        for (int i = 0; i < 6; i++) {
            Checks.same("each writing is its own", x.sign(i, 0, 1), i);
        }
        Checks.same("no seventh to read", x.sign(6, 0, 0), -1);
        Checks.same("to meet", x.meets(6, 0) + x.meets(0, 6), -2);
        Checks.same("to agree", x.agrees(6, 0, 0), -1);
        Checks.same("to stand", x.may(6, -1) + x.best(6), -2);
        Checks.same("to be lost or faded", x.lost(6, 0, 1) + x.faded(6, 0, 1), -2);
        Checks.same("to be misread", x.odds(6, 0, 0, 0), -1);
        Checks.same("to be written", x.write(6, 0, 0, 0), -1);
        Checks.same("status 0", x.status(0), 1);
    }

    /** Promise 5: NONE: a FAULT; the tape and the skin are as they were. */
    private static void textRefused() {
        String[] wrong = {"", "s;", "sw9;h", "y:", "a//", "h;h;h;h;h"};
        for (String tape : wrong) {
            for (int sort = 0; sort < 3; sort++) {
                int one = sort;
                Edges.silent("text(" + sort + ") of '" + tape + "'", x -> usedSkin(x, tape), x -> x.text(one), -1);
            }
        }
        Edges.silent("a skin is no law", x -> usedSkin(x, "h"), x -> x.text(1), -1);
        Edges.silent("a law is no writing", x -> usedSkin(x, "y:1"), x -> x.text(2), -1);
        Edges.silent("a writing is no skin", x -> usedSkin(x, "a"), x -> x.text(0), -1);
    }

    private static void usedSkin(ScrapedSkin x, String tape) {
        Checks.tell(x, 0, "sw3r2k9l2;hi5f1;hi3");
        Checks.tell(x, 2, "ab");
        Checks.tell(x, 2, "c/.d");
        Checks.tell(x, 1, "y:1");
        x.law(0);
        x.scribes(7);
        x.write(0, 0, 0, 0);
        x.write(1, 1, 1, 0);
        x.image();
        x.ages(2);
        x.scrape(0, 1);
        x.noted(0, 0, true);
        x.scrape(9, 9);
        x.end(0);
        Checks.feed(x, tape);
    }

    /** YEAR 0, blank; all that was of another one, NOTED, too, is gone but LAWS, which holds, WRITINGS .. */
    private static void textOfASecondSkin() {
        ScrapedSkin x = new ScrapedSkin();
        usedSkin(x, "sw4r1k7l4;hi8f2");
        Checks.same("how many cells", x.text(0), 4);
        int[] counts = {4, 1, 1, 2, 0, 0, 0, 7, 0, 0, 0};
        for (int what = 0; what <= 10; what++) {
            Checks.same("count " + what, x.count(what), counts[what]);
        }
        int[] rules = {4, 1, 4, 7};
        for (int what = 0; what < 4; what++) {
            Checks.same("rule " + what, x.rule(what), rules[what]);
        }
        Checks.same("its hand", Checks.hand(x, 0, 0), 8);
        Checks.same("no other", Checks.hand(x, 1, 0), -77);
        Checks.same("blank", x.most(0), 0);
        Checks.same("each cell", x.most(6), 4);
        Checks.same("no image of this skin", x.back(), -1);
        Checks.same("nothing to undo", x.undo(), -1);
        Checks.same("no log", x.log(0, 0), -1);
        Checks.same("status stays", x.status(1), 1);
        Checks.same("nothing noted: the line fits at six, the other at each way", x.fits(-1), 6);
        x.write(0, 0, 0, 0);
        x.ages(1);
        Checks.same("the law still holds", x.layer(0, 0, 2), 7);
        Checks.same("the same skin again is another one", Checks.tell(x, 0, "sw4r1k7l4;hi8f2"), 4);
        Checks.same("blank again", x.most(0), 0);
    }

    /** Promise 10: The LAW that holds (NONE: none). False: no such one. */
    private static void lawThatHolds() {
        ScrapedSkin x = new ScrapedSkin();
        Checks.same("none without any", x.law(-1), true);
        Checks.same("law 0 without any", x.law(0), false);
        Checks.tell(x, 1, "y:1");
        Checks.tell(x, 1, "y:2");
        Checks.same("the last", x.law(1), true);
        Checks.same("it holds", x.count(5), 1);
        Checks.same("once more", x.law(1), true);
        Checks.same("the first", x.law(0), true);
        Checks.same("it holds then", x.count(5), 0);
        Checks.same("none", x.law(-1), true);
        Checks.same("none holds", x.count(5), -1);
        for (int law : new int[] {2, 4, -2, Edges.MIN, Edges.MAX}) {
            Edges.silent("law " + law, s -> {
                Checks.tell(s, 1, "y:1");
                Checks.tell(s, 1, "y:2");
                s.law(1);
            }, s -> Edges.one(s.law(law)), 0);
        }
    }

    /** Promise 8: (0 .. 25; 26: left free). NONE: no such ones. */
    private static void signsToldBack() {
        ScrapedSkin x = new ScrapedSkin();
        Checks.same("no writing", x.sign(0, 0, 0), -1);
        Checks.tell(x, 2, "az./bcdefghi/./m");
        int[][] want = {{0, 25, 26}, {1, 2, 3, 4, 5, 6, 7, 8}, {26}, {12}};
        for (int line = -1; line <= 4; line++) {
            for (int i = -1; i <= 8; i++) {
                boolean there = line >= 0 && line < 4 && i >= 0 && i < want[line].length;
                Checks.same("sign in line " + line + " at " + i, x.sign(0, line, i), there ? want[line][i] : -1);
            }
        }
        Checks.tell(x, 2, "b");
        Checks.same("the other writing", x.sign(1, 0, 0), 1);
        Checks.same("no second sign in it", x.sign(1, 0, 1), -1);
        Checks.same("no second line in it", x.sign(1, 1, 0), -1);
        for (int far : new int[] {Edges.MIN, -1, 2, Edges.MAX}) {
            Checks.same("no writing " + far, x.sign(far, 0, 0), -1);
            Checks.same("no line " + far, x.sign(1, far, 0), -1);
            Checks.same("no sign " + far, x.sign(1, 0, far), -1);
        }
    }
}
