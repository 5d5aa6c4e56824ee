import java.util.ArrayList;
import java.util.List;
import java.util.Random;

/** Texts of cakes by chance: sound ones for a table, and such as have all kinds of faults. */
final class RandomTexts {
    private static final String[] ODD = {"tier", "by", "high", "guest", "wants", "sweet", "comes", "worth", "slip", "pace",
        "draw", "or", "and", "not", "area", "long", ";", "(", ")", "<", "=", "+", "-", "%", "0", "9", "10", "101", "1000",
        "9999", "12345", "7a", "abcdefgh", "abcdefghi", "$", "{", "A", "\t", "a", "b"};
    private static final String[] NAMES = {"a", "b", "c", "ann", "abcdefgh", "zz", "e", "cake", "tiers", "notes", "q", "r",
        "s", "t", "u", "v"};

    private final Random random;
    private final List<String> tokens = new ArrayList<>();

    private RandomTexts(Random random) {
        this.random = random;
    }

    /** A cake to play with: no faults, wants that can be met now and then, and formulas that tell pieces apart. */
    static String table(Random random) {
        RandomTexts text = new RandomTexts(random);
        int tiers = random.nextInt(12) == 0 ? 0 : 1 + random.nextInt(3);
        int guests = random.nextInt(12) == 0 ? 0 : 1 + random.nextInt(6);
        int most = 1 + random.nextInt(8);
        int wanted = 2 + random.nextInt(90);
        for (int i = 0; i < tiers; i++) {
            text.add("tier", NAMES[i], 1 + random.nextInt(most), "by", 1 + random.nextInt(8), "high", 1 + random.nextInt(random.nextBoolean() ? 1 : 9), ";");
        }
        for (int i = 0; i < guests; i++) {
            text.add("guest", NAMES[i], "wants", random.nextInt(20) == 0 ? 999 : random.nextInt(wanted));
            text.guestEnd(random.nextInt(10), random.nextInt(101));
        }
        if (random.nextInt(5) > 0) {
            text.add("worth");
            text.worth();
            text.add(";");
        }
        if (random.nextInt(5) > 0) {
            text.add("slip");
            text.formula(random.nextInt(3));
            text.add(";");
        }
        if (random.nextBoolean()) {
            text.add("pace", random.nextInt(61), ";");
        }
        if (random.nextBoolean()) {
            text.add("draw", random.nextInt(1000), ";");
        }
        return text.joined();
    }

    /** Any lines, with numbers at and beyond their bounds, and up to two tokens spoiled. */
    static String any(Random random) {
        RandomTexts text = new RandomTexts(random);
        for (int lines = random.nextInt(10); lines > 0; lines--) {
            text.line();
        }
        for (int i = random.nextInt(3); i > 0; i--) {
            text.spoil();
        }
        return text.joined();
    }

    private void add(Object... more) {
        for (Object token : more) {
            tokens.add(token.toString());
        }
    }

    private int number(int least, int most) {
        switch (random.nextInt(40)) {
            case 0: return Math.max(0, least - 1);
            case 1: return most + 1;
            case 2: return least;
            case 3: return most;
            default: return least + random.nextInt(most - least + 1);
        }
    }

    private void line() {
        String name = NAMES[random.nextInt(NAMES.length)];
        switch (random.nextInt(9)) {
            case 0:
            case 1:
                add("tier", name, number(1, 8), "by", number(1, 8), "high", number(1, 9), ";");
                break;
            case 2:
            case 3:
            case 4:
                add("guest", name, "wants", number(0, 999));
                guestEnd(number(0, 9), number(0, 100));
                break;
            case 5:
                add("pace", number(0, 60), ";");
                break;
            case 6:
                add("draw", number(0, 999), ";");
                break;
            default:
                add(random.nextBoolean() ? "worth" : "slip");
                // Some are deeper and longer than a formula can be.
                formula(random.nextInt(12) == 0 ? 9 : 1 + random.nextInt(4));
                add(";");
        }
    }

    private void guestEnd(int sweet, int comes) {
        if (random.nextBoolean()) {
            add("sweet", sweet);
        }
        if (random.nextBoolean()) {
            add("comes", comes);
        }
        add(";");
    }

    /** Much or little, with icing or without, broken or not: what a guest can like. */
    private void worth() {
        String[] worths = {"area*(1-sweet%2*2)", "area+icing*sweet", "icing*(sweet>4)-area", "area-broken*9-minute",
            "(area>sweet)*icing", "area%(sweet+1)", "sweet*9-area", "icing", "0-area", "area*area/(icing+1)", "(icing=sweet)or(area<9)"};
        if (random.nextInt(3) > 0) {
            add(worths[random.nextInt(worths.length)]);
        } else {
            formula(2);
        }
    }

    private void formula(int depth) {
        String[] joints = {"or", "and", "<", ">", "=", "+", "-", "*", "/", "%"};
        int parts = depth > 5 ? 1 + random.nextInt(2) : 1 + random.nextInt(depth > 2 ? 4 : 3);
        boolean related = false;
        for (int i = parts; i > 0; i--) {
            boolean fresh = tokens.get(tokens.size() - 1).matches("worth|slip|\\(|and|or|not");
            while (fresh && random.nextInt(depth > 5 ? 2 : 5) == 0) {
                add("not");
            }
            if (depth > 0 && random.nextInt(depth > 5 ? 1 : 3) == 0) {
                add("(");
                formula(depth - 1);
                add(")");
            } else {
                String[] units = {"area", "icing", "sweet", "broken", "long", "minute", "" + random.nextInt(10), "" + random.nextInt(10000)};
                add(units[random.nextInt(units.length)]);
            }
            if (i > 1) {
                String joint = joints[random.nextInt(joints.length)];
                // Two relations beside one another are a fault; in a short formula there is none.
                joint = depth < 3 && related && joint.matches("[<>=]") ? "+" : joint;
                related |= joint.matches("[<>=]");
                add(joint);
            }
        }
    }

    private void spoil() {
        String odd = ODD[random.nextInt(ODD.length)];
        int at = random.nextInt(tokens.size() + 1);
        switch (at < tokens.size() ? random.nextInt(4) : 0) {
            case 0:
                tokens.add(at, odd);
                break;
            case 1:
                tokens.set(at, odd);
                break;
            case 2:
                tokens.remove(at);
                break;
            default:
                tokens.subList(at, tokens.size()).clear();
        }
    }

    private String joined() {
        StringBuilder all = new StringBuilder();
        for (String token : tokens) {
            String last = all.length() == 0 ? "" : "" + all.charAt(all.length() - 1);
            boolean touches = last.matches("[a-z]") && token.matches("[a-z].*") || last.matches("[0-9]") && token.matches("[a-z0-9].*");
            for (int i = touches ? 1 + random.nextInt(2) : random.nextInt(5) / 4; i > 0; i--) {
                all.append(random.nextInt(4) == 0 ? '\n' : ' ');
            }
            all.append(token);
        }
        return all.length() <= 1600 ? all.toString() : all.substring(0, 1600);
    }
}
