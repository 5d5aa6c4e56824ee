import java.util.Map;
import java.util.Random;

/** Random texts, sound and spoiled, read by the class and by a plain reader: faults, numbers and formulas alike. */
public final class RandomTextsTest {
    private static final Due DUE = new Due("RandomTextsTest");

    public static void main(String[] args) {
        int[] faults = new int[5];
        for (int seed = 0; seed < 20000; seed++) {
            String text = RandomTexts.any(new Random(seed));
            PlainReader plain = new PlainReader(text);
            faults[plain.fault]++;
            compare(text, plain);
        }
        for (int kind = 0; kind < faults.length; kind++) {
            DUE.is("texts with fault " + kind + " are many", faults[kind] > 300, true);
        }
        DUE.finish();
    }

    private static void compare(String text, PlainReader plain) {
        ThreeTiers x = new ThreeTiers();
        int tiers = Due.tell(x, text);
        DUE.is("cake of " + text, tiers, plain.fault == 0 ? plain.tiers.size() : -1);
        DUE.is("fault(0) of " + text, x.fault(0), plain.fault);
        DUE.is("fault(1) of " + text, x.fault(1), plain.place);
        if (plain.fault != 0) {
            return;
        }
        DUE.is("units of " + text, x.about(11), plain.units);
        DUE.is("guests of " + text, x.about(1), plain.guests.size());
        DUE.is("draw of " + text, x.about(4), plain.numbers.getOrDefault("draw", 0));
        for (int tier = 0; tier < tiers; tier++) {
            int[] sides = plain.tiers.get(tier);
            DUE.is("columns", x.piece(tier, 3), sides[0]);
            DUE.is("rows", x.piece(tier, 4), sides[1]);
            DUE.is("area", x.piece(tier, 5), sides[0] * sides[1] * sides[2]);
        }
        for (int guest = 0; guest < plain.guests.size(); guest++) {
            int number = guest;
            DUE.row("guest " + guest, what -> x.guest(number, what), plain.guests.get(guest));
        }
        formulas(x, plain, text);
        // The minute goes on, and pieces may be broken and lie inside.
        x.cut(0, 0, 1);
        x.cut(0, 1, 1);
        formulas(x, plain, text);
    }

    private static void formulas(ThreeTiers x, PlainReader plain, String text) {
        PlainReader.Formula worth = plain.formulas.getOrDefault("worth", facts -> facts.get("area"));
        PlainReader.Formula slip = plain.formulas.getOrDefault("slip", facts -> 0);
        int minute = x.about(3);
        for (int piece = 0; piece < x.about(2); piece++) {
            int area = x.piece(piece, 5);
            int icing = x.piece(piece, 6);
            int broken = x.piece(piece, 7);
            for (int guest = 0; guest < plain.guests.size(); guest++) {
                int due = worth.applyAsInt(Map.of("area", area, "icing", icing, "broken", broken, "minute", minute,
                    "sweet", x.guest(guest, 1), "long", 0));
                DUE.is("worth(" + guest + ", " + piece + ") of " + text, x.worth(guest, piece), due);
            }
            for (int way = 0; way < 2; way++) {
                if (x.piece(piece, 3 + way) > 1) {
                    int due = slip.applyAsInt(Map.of("area", area, "icing", icing, "broken", broken, "minute", minute,
                        "sweet", 0, "long", x.piece(piece, 4 - way)));
                    DUE.is("slip(" + piece + ", " + way + ", 1) of " + text, x.slip(piece, way, 1), Math.max(0, Math.min(100, due)));
                }
            }
        }
    }

    private RandomTextsTest() {
    }
}
