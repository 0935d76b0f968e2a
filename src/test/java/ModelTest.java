import java.nio.charset.StandardCharsets;
import java.util.Random;

/** Many runs of drawn calls, each answer held against the model; every exception but the document's is a fault. */
public final class ModelTest {
    private static final int[] ODD = {-1, -2, Integer.MIN_VALUE, Integer.MAX_VALUE, 1 << 30, -1000000, 1000, 256};

    private final Random random;
    private final ScrapedSkin skin = new ScrapedSkin();
    private final SkinModel model = new SkinModel();
    private final StringBuilder told = new StringBuilder();
    /** In calm runs little is scraped and few years go by, so that layers come to lie over layers. */
    private final boolean calm;

    private ModelTest(long seed) {
        random = new Random(seed);
        calm = seed % 3 != 0;
    }

    public static void main(String[] args) {
        int runs = Integer.getInteger("runs", 1500);
        for (int run = 0; run < runs; run++) {
            ModelTest test = new ModelTest(run);
            try {
                test.run();
            } catch (RuntimeException thrown) {
                thrown.printStackTrace(System.out);
                Checks.same("run " + run + test.told + " threw", 1, 0);
            }
        }
        Checks.end();
    }

    private void run() {
        if (random.nextInt(20) != 0) {
            tell(0, skinText());
            for (int i = random.nextInt(5); i >= 0; i--) {
                tell(2, writingText());
            }
            for (int i = random.nextInt(3); i > 0; i--) {
                tell(1, lawText());
            }
        }
        if (random.nextInt(12) == 0) {
            for (int i = 31 + below(3); i > 0; i--) {
                callYears(30, random.nextLong());
            }
        }
        int calls = 60 + random.nextInt(200);
        for (int i = 0; i < calls; i++) {
            one();
        }
        for (int what = -1; what <= 11; what++) {
            call("count", what);
            call("most", what);
            call("status", what);
        }
    }

    private int below(int n) {
        return random.nextInt(Math.max(1, n));
    }

    /** Mostly within, now and then just beside, or far off. */
    private int about(int n) {
        int kind = random.nextInt(24);
        return kind == 0 ? ODD[below(ODD.length)] : kind == 1 ? n : kind == 2 ? -1 : below(n);
    }

    private int spot(int writing) {
        for (int tries = 0; tries < 12; tries++) {
            int spot = below(4 * model.cells.size());
            if (model.agrees(writing, spot, 0) >= 0 && random.nextInt(20) != 0) {
                return spot;
            }
        }
        return about(4 * model.cells.size());
    }

    private int writing() {
        return about(model.writings.size());
    }

    private void one() {
        int kind = random.nextInt(64);
        int hands = model.hands.size();
        int cells = model.cells.size();
        if (kind < 10 || kind < 18 && calm && random.nextInt(3) != 0) {
            int writing = writing();
            int spot = spot(writing);
            boolean whole = random.nextInt(10) != 0 && spot >= 0;
            if (calm && model.coins < 4) {
                call("give", 20);
            }
            call("write", writing, about(hands), whole ? spot / 4 : about(cells), whole ? spot % 4 : about(4));
        } else if (kind < 12) {
            call("scrape", about(model.rows), random.nextInt(6) == 0 ? about(11) : 1 + below(4));
        } else if (kind < 14) {
            call("ages", random.nextInt(5) == 0 ? about(32) : 1 + below(2));
        } else if (kind < 16) {
            call("give", about(52));
        } else if (kind < 18) {
            callYears(random.nextInt(4) == 0 ? about(32) : 1 + below(4), random.nextLong());
        } else if (kind < 20) {
            for (int i = random.nextInt(60) == 0 ? 45 : 1 + below(2); i > 0; i--) {
                call("undo");
            }
        } else if (kind == 20) {
            call(random.nextBoolean() ? "image" : "back");
        } else if (kind == 21) {
            call("law", about(model.laws.size() + 1) - 1);
            call("scribes", about(10));
        } else if (kind == 22) {
            someText();
        } else if (kind == 23) {
            call("noted", about(cells), about(6), below(5) == 0 ? 1 : 0);
        } else {
            look(kind, hands, cells);
        }
    }

    private void look(int kind, int hands, int cells) {
        int writing = writing();
        switch (kind % 20) {
            case 0 -> call("rule", about(4));
            case 1 -> call("hand", about(hands), about(4));
            case 2 -> call("sign", writing, about(3), about(4));
            case 3 -> call("layer", about(cells), about(4), about(3));
            case 4 -> call("log", about(60), about(3));
            case 5 -> call(random.nextBoolean() ? "shows" : "lamp", about(cells));
            case 6 -> call("agrees", writing, spot(writing), about(3));
            case 7 -> call("may", writing, about(12));
            case 8 -> call("best", writing);
            case 9 -> call("over", about(hands), about(hands));
            case 10 -> call("order", about(2));
            case 11 -> call("lost", writing, spot(writing), random.nextInt(4) == 0 ? about(17) : 1 + below(4));
            case 12 -> call("faded", writing, spot(writing), random.nextInt(4) == 0 ? about(17) : 1 + below(4));
            case 13 -> call("fits", random.nextInt(3) == 0 ? -1 : about(200));
            case 14 -> call("ask");
            case 15 -> {
                call("meets", writing, writing());
                call("quire", about(2));
            }
            case 16 -> call("game", about(model.rows), about(4), about(3), about(2));
            case 17 -> call("rests", about(model.rows), about(4));
            case 18 -> call("odds", writing, spot(writing), about(101), about(6));
            default -> {
                call("shares", about(hands), about(1000));
                call("most", about(10));
                call("count", about(11));
            }
        }
    }

    // ---- Texts ----

    private String blank() {
        return random.nextInt(12) == 0 ? " " : "";
    }

    private String skinText() {
        StringBuilder text = new StringBuilder(blank());
        int hands = 1 + below(4);
        int rulesAt = below(hands + 2);
        for (int i = 0; i < hands; i++) {
            if (i == rulesAt) {
                text.append(rulesText()).append(blank()).append(';').append(blank());
            }
            text.append('h').append(blank());
            if (random.nextInt(3) != 0) {
                text.append('i').append(blank()).append(1 + below(9)).append(blank());
            }
            if (random.nextInt(3) != 0) {
                text.append('f').append(calm ? below(2) : below(10)).append(blank());
            }
            if (i + 1 < hands) {
                text.append(';').append(blank());
            }
        }
        return rulesAt == hands ? text.append(';').append(rulesText()).toString() : text.toString();
    }

    private String rulesText() {
        StringBuilder text = new StringBuilder("s");
        if (random.nextInt(4) != 0) {
            text.append('w').append(2 + below(random.nextBoolean() ? 3 : 7)).append(blank());
        }
        if (random.nextInt(4) != 0) {
            text.append("r").append(blank()).append(1 + below(5));
        }
        if (random.nextInt(3) == 0) {
            text.append('l').append(1 + below(9));
        }
        if (random.nextInt(3) != 0) {
            text.append('k').append(random.nextBoolean() ? 99 : below(100));
        }
        return text.toString();
    }

    private String writingText() {
        StringBuilder text = new StringBuilder(blank());
        int lines = random.nextInt(3) == 0 ? 1 + below(4) : 1;
        int most = lines == 1 ? 8 : 3;
        for (int line = 0; line < lines; line++) {
            text.append(line == 0 ? "" : "/");
            for (int i = below(random.nextInt(3) == 0 ? most : 3); i >= 0; i--) {
                text.append(random.nextInt(7) == 0 ? '.' : (char) ('a' + below(4))).append(blank());
            }
        }
        return text.append(random.nextInt(10) == 0 ? "z" : "").toString();
    }

    private String lawText() {
        StringBuilder text = new StringBuilder();
        for (int i = below(3); i >= 0; i--) {
            text.append('y').append(blank()).append(':').append(blank());
            if (random.nextInt(3) != 0) {
                condition(text, 2);
                text.append('?').append(blank());
            }
            sum(text, 2);
            text.append(i > 0 ? ";" : blank());
        }
        return text.toString();
    }

    private void condition(StringBuilder text, int deep) {
        for (int i = below(2); i >= 0; i--) {
            int kind = deep == 0 ? 9 : random.nextInt(8);
            if (kind == 0) {
                text.append('!');
                condition(text, deep - 1);
            } else if (kind == 1) {
                text.append('(');
                condition(text, deep - 1);
                text.append(')').append(blank());
            } else {
                sum(text, deep - 1);
                text.append("=<>".charAt(below(3)));
                sum(text, deep - 1);
            }
            text.append(i > 0 ? random.nextBoolean() ? "|" : "&" : "");
        }
    }

    private void sum(StringBuilder text, int deep) {
        for (int i = below(3); i >= 0; i--) {
            int kind = deep <= 0 ? 9 : random.nextInt(9);
            if (kind == 0) {
                text.append('[').append(blank());
                sum(text, deep - 1);
                text.append(']');
            } else if (random.nextInt(3) == 0) {
                text.append(below(random.nextInt(4) == 0 ? 10000 : 10)).append(blank());
            } else {
                text.append("sdfiry".charAt(below(6))).append(blank());
            }
            text.append(i > 0 ? "" + "+-*/".charAt(below(4)) : "");
        }
    }

    /** A text, perhaps spoilt, that is looked at and perhaps taken. */
    private void someText() {
        int sort = below(3);
        String text = sort == 0 ? skinText() : sort == 1 ? lawText() : writingText();
        StringBuilder spoilt = new StringBuilder(text);
        for (int i = below(3); i > 0; i--) {
            char sign = " ;:/?!([)]+-*=<>&|0123456789ysdfirhwlkabz.A".charAt(below(43));
            int at = below(spoilt.length());
            switch (below(3)) {
                case 0 -> spoilt.insert(at, sign);
                case 1 -> spoilt.setCharAt(at, sign);
                default -> spoilt.deleteCharAt(at);
            }
            if (spoilt.length() == 0) {
                spoilt.append(sign);
            }
        }
        call("end", random.nextInt(8) == 0 ? about(20) : 0);
        feed(spoilt.toString());
        call("fault", about(3));
        call("fault", sort);
        if (random.nextInt(sort == 0 ? 12 : 3) == 0) {
            call("text", sort);
        }
    }

    private void tell(int sort, String text) {
        call("end", 0);
        feed(text);
        call("fault", sort);
        call("text", sort);
    }

    private void feed(String text) {
        byte[] bytes = text.getBytes(StandardCharsets.ISO_8859_1);
        for (int from = 0; from < bytes.length;) {
            int[] five = new int[5];
            for (int i = 0; i < 20; i++) {
                // Bytes of 0 anywhere must be left out.
                boolean skipped = random.nextInt(30) == 0;
                int one = skipped || from >= bytes.length ? 0 : bytes[from++] & 255;
                five[i / 4] = five[i / 4] << 8 | one;
            }
            call("feed", five);
        }
    }

    // ---- Both sides ----

    private void callYears(int n, long seed) {
        told.append(" years(").append(n).append(", ").append(seed).append("L)");
        Checks.same(told.toString(), skin.years(n, seed), model.years(n, seed));
    }

    private void call(String name, int... a) {
        if (told.length() > 6000) {
            told.delete(0, 3000);
        }
        told.append(' ').append(name).append(java.util.Arrays.toString(a));
        long got = ofSkin(name, a);
        long want = ofModel(name, a);
        Checks.same(got == want ? name : "model:" + told + " tape '" + model.tape + "'", got, want);
    }

    private long ofSkin(String name, int[] a) {
        return switch (name) {
            case "feed" -> skin.feed(a[0], a[1], a[2], a[3], a[4]);
            case "end" -> skin.end(a[0]) ? 1 : 0;
            case "fault" -> skin.fault(a[0]);
            case "text" -> skin.text(a[0]);
            case "rule" -> skin.rule(a[0]);
            case "hand" -> Checks.hand(skin, a[0], a[1]);
            case "sign" -> skin.sign(a[0], a[1], a[2]);
            case "layer" -> skin.layer(a[0], a[1], a[2]);
            case "law" -> skin.law(a[0]) ? 1 : 0;
            case "scribes" -> skin.scribes(a[0]) ? 1 : 0;
            case "write" -> skin.write(a[0], a[1], a[2], a[3]);
            case "scrape" -> skin.scrape(a[0], a[1]);
            case "ages" -> skin.ages(a[0]);
            case "give" -> skin.give(a[0]);
            case "status" -> skin.status(a[0]);
            case "undo" -> skin.undo();
            case "log" -> skin.log(a[0], a[1]);
            case "shows" -> skin.shows(a[0]);
            case "lamp" -> skin.lamp(a[0]);
            case "agrees" -> skin.agrees(a[0], a[1], a[2]);
            case "may" -> skin.may(a[0], a[1]);
            case "best" -> skin.best(a[0]);
            case "over" -> skin.over(a[0], a[1]);
            case "order" -> skin.order(a[0]);
            case "lost" -> skin.lost(a[0], a[1], a[2]);
            case "faded" -> skin.faded(a[0], a[1], a[2]);
            case "noted" -> skin.noted(a[0], a[1], a[2] == 1);
            case "fits" -> skin.fits(a[0]);
            case "ask" -> skin.ask();
            case "meets" -> skin.meets(a[0], a[1]);
            case "quire" -> skin.quire(a[0]);
            case "game" -> skin.game(a[0], a[1], a[2], a[3]);
            case "rests" -> skin.rests(a[0], a[1]);
            case "odds" -> skin.odds(a[0], a[1], a[2], a[3]);
            case "shares" -> skin.shares(a[0], a[1]);
            case "most" -> skin.most(a[0]);
            case "image" -> skin.image();
            case "back" -> skin.back();
            case "count" -> skin.count(a[0]);
            default -> throw new IllegalArgumentException(name);
        };
    }

    private long ofModel(String name, int[] a) {
        return switch (name) {
            case "feed" -> model.feed(a);
            case "end" -> model.end(a[0]) ? 1 : 0;
            case "fault" -> model.fault(a[0]);
            case "text" -> model.text(a[0]);
            case "rule" -> model.rule(a[0]);
            case "hand" -> model.hand(a[0], a[1]);
            case "sign" -> model.sign(a[0], a[1], a[2]);
            case "layer" -> model.layer(a[0], a[1], a[2]);
            case "law" -> model.law(a[0]) ? 1 : 0;
            case "scribes" -> model.scribes(a[0]) ? 1 : 0;
            case "write" -> model.write(a[0], a[1], a[2], a[3]);
            case "scrape" -> model.scrape(a[0], a[1]);
            case "ages" -> model.ages(a[0]);
            case "give" -> model.give(a[0]);
            case "status" -> model.status(a[0]);
            case "undo" -> model.undo();
            case "log" -> model.log(a[0], a[1]);
            case "shows" -> model.shows(a[0]);
            case "lamp" -> model.lamp(a[0]);
            case "agrees" -> model.agrees(a[0], a[1], a[2]);
            case "may" -> model.may(a[0], a[1]);
            case "best" -> model.best(a[0]);
            case "over" -> model.over(a[0], a[1]);
            case "order" -> model.order(a[0]);
            case "lost" -> model.lost(a[0], a[1], a[2]);
            case "faded" -> model.faded(a[0], a[1], a[2]);
            case "noted" -> model.noted(a[0], a[1], a[2] == 1);
            case "fits" -> model.fits(a[0]);
            case "ask" -> model.ask();
            case "meets" -> model.meets(a[0], a[1]);
            case "quire" -> model.quire(a[0]);
            case "game" -> model.game(a[0], a[1], a[2], a[3]);
            case "rests" -> model.rests(a[0], a[1]);
            case "odds" -> model.odds(a[0], a[1], a[2], a[3]);
            case "shares" -> model.shares(a[0], a[1]);
            case "most" -> model.most(a[0]);
            case "image" -> model.image();
            case "back" -> model.back();
            case "count" -> model.count(a[0]);
            default -> throw new IllegalArgumentException(name);
        };
    }
}
