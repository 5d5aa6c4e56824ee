import java.util.ArrayList;
import java.util.HashMap;
import java.util.List;
import java.util.Map;
import java.util.function.ToIntFunction;
import java.util.regex.Matcher;
import java.util.regex.Pattern;

/** Reads a text as the Terms tell it, plainly and apart from the class: all TOKENS first, then the lines. */
final class PlainReader {
    /** The first fault ends the reading. */
    private static final class Fault extends RuntimeException {
        private static final long serialVersionUID = 1;
        final int kind;
        final int place;

        Fault(int kind, int place) {
            this.kind = kind;
            this.place = place;
        }
    }

    /** A formula: what comes of it by area, icing, sweet, broken, long and minute. */
    interface Formula extends ToIntFunction<Map<String, Integer>> {
    }

    private static final List<String> KEPT = List.of("tier", "by", "high", "guest", "wants", "sweet", "comes", "worth",
        "slip", "pace", "draw", "or", "and", "not", "area", "icing", "broken", "long", "minute");
    private static final List<String> FACTS = List.of("area", "icing", "sweet", "broken", "long", "minute");

    int fault;
    int place = -1;
    final List<int[]> tiers = new ArrayList<>();
    final List<int[]> guests = new ArrayList<>();
    final Map<String, Formula> formulas = new HashMap<>();
    final Map<String, Integer> numbers = new HashMap<>();
    int units;

    private final List<String> tokens = new ArrayList<>();
    private final List<Integer> starts = new ArrayList<>();
    private final List<String> names = new ArrayList<>();
    private int at;
    private int unitsHere;

    PlainReader(String text) {
        part(text);
        try {
            while (!isEnd()) {
                line();
            }
        } catch (Fault first) {
            fault = first.kind;
            place = first.place;
        }
    }

    private void part(String text) {
        Matcher runs = Pattern.compile("[a-z]+|[0-9]+[a-z]*|[^ \n]").matcher(text);
        while (runs.find()) {
            tokens.add(runs.group());
            starts.add(runs.start());
        }
        tokens.add("");
        starts.add(text.length());
    }

    private boolean isToken() {
        return tokens.get(at).matches("|[a-z]{1,8}|[0-9]{1,4}|[;()<>=+*/%-]");
    }

    private boolean isEnd() {
        return tokens.get(at).isEmpty();
    }

    private Fault fault(int kind) {
        return new Fault(isToken() ? kind : 1, starts.get(at));
    }

    private boolean comes(String token) {
        return !isEnd() && tokens.get(at).equals(token);
    }

    private boolean takes(String token) {
        if (comes(token)) {
            at++;
            return true;
        }
        return false;
    }

    private void must(String token) {
        if (!takes(token)) {
            throw fault(2);
        }
    }

    private int number(int least, int most) {
        if (!isToken() || !tokens.get(at).matches("[0-9]+")) {
            throw fault(2);
        }
        int number = Integer.parseInt(tokens.get(at));
        if (number < least || number > most) {
            throw fault(4);
        }
        at++;
        return number;
    }

    private void name(String sort) {
        String word = tokens.get(at);
        if (!isToken() || !word.matches("[a-z]+") || KEPT.contains(word)) {
            throw fault(2);
        }
        if (names.contains(sort + word)) {
            throw fault(3);
        }
        names.add(sort + word);
        at++;
    }

    private void line() {
        String first = tokens.get(at);
        boolean again = formulas.containsKey(first) || numbers.containsKey(first);
        boolean full = first.equals("tier") && tiers.size() == 3 || first.equals("guest") && guests.size() == 6;
        if (again || full || !List.of("tier", "guest", "worth", "slip", "pace", "draw").contains(first)) {
            throw fault(2);
        }
        at++;
        if (first.equals("tier")) {
            tier();
        } else if (first.equals("guest")) {
            guest();
        } else if (first.equals("pace") || first.equals("draw")) {
            numbers.put(first, number(0, first.equals("pace") ? 60 : 999));
        } else {
            unitsHere = 0;
            formulas.put(first, either(0));
            units += unitsHere;
        }
        must(";");
    }

    private void tier() {
        name("tier ");
        int columns = number(1, 8);
        must("by");
        int rows = number(1, 8);
        must("high");
        tiers.add(new int[] {columns, rows, number(1, 9)});
    }

    private void guest() {
        name("guest ");
        must("wants");
        int wants = number(0, 999);
        int sweet = takes("sweet") ? number(0, 9) : 0;
        guests.add(new int[] {wants, sweet, takes("comes") ? number(0, 100) : 100});
    }

    private Formula either(int around) {
        Formula left = both(around);
        while (takes("or")) {
            Formula a = left;
            Formula b = both(around);
            left = facts -> a.applyAsInt(facts) != 0 | b.applyAsInt(facts) != 0 ? 1 : 0;
        }
        return left;
    }

    private Formula both(int around) {
        Formula left = one(around);
        while (takes("and")) {
            Formula a = left;
            Formula b = one(around);
            left = facts -> a.applyAsInt(facts) != 0 & b.applyAsInt(facts) != 0 ? 1 : 0;
        }
        return left;
    }

    private Formula one(int around) {
        if (comes("not")) {
            if (around == 7) {
                throw fault(2);
            }
            at++;
            Formula a = one(around + 1);
            return facts -> a.applyAsInt(facts) == 0 ? 1 : 0;
        }
        Formula a = sum(around);
        String sign = tokens.get(at);
        if (!sign.matches("[<>=]")) {
            return a;
        }
        at++;
        Formula b = sum(around);
        return facts -> {
            int order = Integer.compare(a.applyAsInt(facts), b.applyAsInt(facts));
            return order == (sign.equals("<") ? -1 : sign.equals(">") ? 1 : 0) ? 1 : 0;
        };
    }

    private Formula sum(int around) {
        Formula left = term(around);
        while (comes("+") || comes("-")) {
            int sign = comes("+") ? 1 : -1;
            at++;
            Formula a = left;
            Formula b = term(around);
            left = facts -> (int) ((long) a.applyAsInt(facts) + (long) sign * b.applyAsInt(facts));
        }
        return left;
    }

    private Formula term(int around) {
        Formula left = unit(around);
        while (comes("*") || comes("/") || comes("%")) {
            String sign = tokens.get(at++);
            Formula a = left;
            Formula b = unit(around);
            left = facts -> joined(sign, a.applyAsInt(facts), b.applyAsInt(facts));
        }
        return left;
    }

    private static int joined(String sign, long a, long b) {
        if (sign.equals("*")) {
            return (int) (a * b);
        }
        return b == 0 ? 0 : (int) (sign.equals("/") ? a / b : a % b);
    }

    private Formula unit(int around) {
        String token = tokens.get(at);
        boolean plain = isToken() && token.matches("[0-9]+") || FACTS.contains(token);
        if (!plain && !(comes("(") && around < 7) || unitsHere == 30) {
            throw fault(2);
        }
        unitsHere++;
        at++;
        if (token.equals("(")) {
            Formula within = either(around + 1);
            must(")");
            return within;
        }
        if (FACTS.contains(token)) {
            return facts -> facts.get(token);
        }
        int number = Integer.parseInt(token);
        return facts -> number;
    }
}
