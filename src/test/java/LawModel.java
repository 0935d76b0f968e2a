import java.util.ArrayList;
import java.util.HashMap;
import java.util.LinkedHashSet;
import java.util.List;
import java.util.Map;
import java.util.Set;

/** Laws in another way than the class does them: faults by a chart over the grammar, worth by splitting texts. */
final class LawModel {
    private LawModel() {
    }

    // ---- The grammar, with a name for each depth, so that "six within one another" is part of it. ----

    private static final Map<String, List<String[]>> GRAMMAR = grammar();

    private static void rule(Map<String, List<String[]>> to, String name, String... parts) {
        to.computeIfAbsent(name, n -> new ArrayList<>()).add(parts);
    }

    private static Map<String, List<String[]>> grammar() {
        Map<String, List<String[]>> g = new HashMap<>();
        rule(g, "Text", "Clauses", "Blanks");
        rule(g, "Clauses", "Clause");
        rule(g, "Clauses", "Clauses", "Blanks", "';", "Clause");
        rule(g, "Clause", "Blanks", "'y", "Blanks", "':", "Sum0");
        rule(g, "Clause", "Blanks", "'y", "Blanks", "':", "Condition0", "Blanks", "'?", "Sum0");
        rule(g, "Blanks");
        rule(g, "Blanks", "Blanks", "' ");
        for (int depth = 0; depth <= 6; depth++) {
            String d = "" + depth;
            String e = "" + (depth + 1);
            rule(g, "Condition" + d, "Truth" + d);
            rule(g, "Condition" + d, "Condition" + d, "Blanks", "'|", "Truth" + d);
            rule(g, "Truth" + d, "Unit" + d);
            rule(g, "Truth" + d, "Truth" + d, "Blanks", "'&", "Unit" + d);
            for (char sign : "=<>".toCharArray()) {
                rule(g, "Unit" + d, "Sum" + d, "Blanks", "'" + sign, "Sum" + d);
            }
            rule(g, "Sum" + d, "Term" + d);
            rule(g, "Sum" + d, "Sum" + d, "Blanks", "'+", "Term" + d);
            rule(g, "Sum" + d, "Sum" + d, "Blanks", "'-", "Term" + d);
            rule(g, "Term" + d, "Atom" + d);
            rule(g, "Term" + d, "Term" + d, "Blanks", "'*", "Atom" + d);
            rule(g, "Term" + d, "Term" + d, "Blanks", "'/", "Atom" + d);
            rule(g, "Atom" + d, "Blanks", "#");
            rule(g, "Atom" + d, "Blanks", "#", "#");
            rule(g, "Atom" + d, "Blanks", "#", "#", "#");
            rule(g, "Atom" + d, "Blanks", "#", "#", "#", "#");
            for (char letter : "sdfiry".toCharArray()) {
                rule(g, "Atom" + d, "Blanks", "'" + letter);
            }
            if (depth < 6) {
                rule(g, "Unit" + d, "Blanks", "'!", "Unit" + e);
                rule(g, "Unit" + d, "Blanks", "'(", "Condition" + e, "Blanks", "')");
                rule(g, "Atom" + d, "Blanks", "'[", "Sum" + e, "Blanks", "']");
            }
        }
        return g;
    }

    private record Item(String name, String[] parts, int dot, int origin) {
        String key() {
            return name + "/" + String.join(",", parts) + "/" + dot + "/" + origin;
        }
    }

    private static final class Chart {
        final List<Item> items = new ArrayList<>();
        final Set<String> keys = new LinkedHashSet<>();

        void add(Item item) {
            if (keys.add(item.key())) {
                items.add(item);
            }
        }
    }

    private static boolean takes(String part, char sign) {
        return part.equals("#") ? sign >= '0' && sign <= '9' : part.charAt(0) == '\'' && part.charAt(1) == sign;
    }

    /** The first byte at which no law can go on; -1: it is one. */
    static int fault(String text) {
        List<Chart> charts = new ArrayList<>();
        Chart first = new Chart();
        for (String[] parts : GRAMMAR.get("Text")) {
            first.add(new Item("Text", parts, 0, 0));
        }
        charts.add(first);
        for (int at = 0; at <= text.length(); at++) {
            Chart now = charts.get(at);
            Chart then = new Chart();
            for (int i = 0; i < now.items.size(); i++) {
                advance(charts, now, then, now.items.get(i), at < text.length() ? text.charAt(at) : 0, at);
            }
            if (at == text.length()) {
                return now.items.stream().anyMatch(
                        item -> item.name.equals("Text") && item.dot == item.parts.length) ? -1 : at;
            }
            if (then.items.isEmpty()) {
                return at;
            }
            charts.add(then);
        }
        throw new IllegalStateException();
    }

    private static void advance(List<Chart> charts, Chart now, Chart then, Item item, char sign, int at) {
        if (item.dot == item.parts.length) {
            Chart from = charts.get(item.origin);
            for (int i = 0; i < from.items.size(); i++) {
                Item waiting = from.items.get(i);
                if (waiting.dot < waiting.parts.length && waiting.parts[waiting.dot].equals(item.name)) {
                    now.add(new Item(waiting.name, waiting.parts, waiting.dot + 1, waiting.origin));
                }
            }
            return;
        }
        String part = item.parts[item.dot];
        if (!GRAMMAR.containsKey(part)) {
            if (sign != 0 && takes(part, sign)) {
                then.add(new Item(item.name, item.parts, item.dot + 1, item.origin));
            }
            return;
        }
        for (String[] parts : GRAMMAR.get(part)) {
            now.add(new Item(part, parts, 0, at));
        }
        // Blanks alone may be empty, and an empty one is done before others wait for it.
        if (part.equals("Blanks")) {
            now.add(new Item(item.name, item.parts, item.dot + 1, item.origin));
        }
    }

    // ---- The worth, by splitting at the last sign that stands outside of all brackets. ----

    /** Values: of s d f i r y, in this order. */
    static int worth(String law, int... values) {
        for (String clause : law.replace(" ", "").split(";")) {
            String body = clause.substring(2);
            int ask = body.indexOf('?');
            if (ask < 0) {
                return sum(body, values);
            }
            if (condition(body.substring(0, ask), values)) {
                return sum(body.substring(ask + 1), values);
            }
        }
        return 0;
    }

    private static int lastOutside(String text, String signs) {
        int within = 0;
        for (int i = text.length() - 1; i >= 0; i--) {
            char sign = text.charAt(i);
            if (sign == ')' || sign == ']') {
                within++;
            } else if (sign == '(' || sign == '[') {
                within--;
            } else if (within == 0 && signs.indexOf(sign) >= 0) {
                return i;
            }
        }
        return -1;
    }

    private static boolean condition(String text, int[] values) {
        int at = lastOutside(text, "|");
        if (at >= 0) {
            return condition(text.substring(0, at), values) || condition(text.substring(at + 1), values);
        }
        at = lastOutside(text, "&");
        if (at >= 0) {
            return condition(text.substring(0, at), values) && condition(text.substring(at + 1), values);
        }
        if (text.startsWith("!")) {
            return !condition(text.substring(1), values);
        }
        if (text.startsWith("(")) {
            return condition(text.substring(1, text.length() - 1), values);
        }
        at = lastOutside(text, "=<>");
        int order = Integer.compare(sum(text.substring(0, at), values), sum(text.substring(at + 1), values));
        return text.charAt(at) == '=' ? order == 0 : text.charAt(at) == '<' ? order < 0 : order > 0;
    }

    private static int sum(String text, int[] values) {
        int at = lastOutside(text, "+-");
        if (at < 0) {
            at = lastOutside(text, "*/");
        }
        if (at >= 0) {
            long left = sum(text.substring(0, at), values);
            long right = sum(text.substring(at + 1), values);
            long both = switch (text.charAt(at)) {
                case '+' -> left + right;
                case '-' -> left - right;
                case '*' -> left * right;
                default -> right == 0 ? 0 : left / right;
            };
            return (int) (both > 1000000 ? 1000000 : both < -1000000 ? -1000000 : both);
        }
        if (text.startsWith("[")) {
            return sum(text.substring(1, text.length() - 1), values);
        }
        int letter = "sdfiry".indexOf(text.charAt(0));
        return letter >= 0 ? values[letter] : Integer.parseInt(text);
    }
}
