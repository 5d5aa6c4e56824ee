import java.math.BigInteger;
import java.util.ArrayList;
import java.util.Arrays;
import java.util.List;
import java.util.Map;

/** The document once more, as plainly as can be and apart from the class: whole tables are copied, all is tried. */
final class PlainCake {
    private static final int NO_WORTH = -1000000000;

    /** A piece: the columns and rows of a tier that it has, and whose plate it is on. */
    private static final class Piece {
        int tier;
        int column;
        int row;
        int columns;
        int rows;
        boolean broken;
        int plate = -1;

        Piece copy() {
            Piece other = new Piece();
            other.tier = tier;
            other.column = column;
            other.row = row;
            other.columns = columns;
            other.rows = rows;
            other.broken = broken;
            other.plate = plate;
            return other;
        }
    }

    private static final class Table {
        final List<Piece> pieces = new ArrayList<>();
        int minute;
        int seed;

        Table copy() {
            Table other = new Table();
            for (Piece piece : pieces) {
                other.pieces.add(piece.copy());
            }
            other.minute = minute;
            other.seed = seed;
            return other;
        }
    }

    private String tape = "";
    private PlainReader told = new PlainReader("");
    private PlainReader latest = told;
    private Table now = new Table();
    private final List<Table> before = new ArrayList<>();
    private final List<Table> after = new ArrayList<>();
    private final Table[] boxes = new Table[3];
    private List<Integer> lying = new ArrayList<>();
    private final List<int[]> seen = new ArrayList<>();
    private int time;

    // ---- the tape and the cake ----

    int feed(int a, int b, int c, int d, int e) {
        if (tape.length() + 20 > 1600) {
            return -1;
        }
        for (int four : new int[] {a, b, c, d, e}) {
            for (int shift = 24; shift >= 0; shift -= 8) {
                tape += (char) (four >>> shift & 255);
            }
        }
        return tape.length();
    }

    int end(int n) {
        if (n < 0 || n > tape.length()) {
            return -1;
        }
        tape = tape.substring(0, n);
        return n;
    }

    int cake() {
        latest = new PlainReader(tape);
        tape = "";
        if (latest.fault != 0) {
            return -1;
        }
        told = latest;
        now = new Table();
        for (int tier = 0; tier < told.tiers.size(); tier++) {
            Piece whole = new Piece();
            whole.tier = tier;
            whole.columns = told.tiers.get(tier)[0];
            whole.rows = told.tiers.get(tier)[1];
            now.pieces.add(whole);
        }
        now.seed = told.numbers.getOrDefault("draw", 0);
        before.clear();
        after.clear();
        seen.clear();
        lying.clear();
        Arrays.fill(boxes, null);
        return told.tiers.size();
    }

    int fault(int what) {
        return what == 0 ? latest.fault : what == 1 ? latest.place : -1;
    }

    // ---- what is on the table ----

    private boolean isPiece(int piece) {
        return piece >= 0 && piece < now.pieces.size();
    }

    private boolean isGuest(int guest) {
        return guest >= 0 && guest < told.guests.size();
    }

    private boolean isTier(int tier) {
        return tier >= 0 && tier < told.tiers.size();
    }

    private int area(Piece piece) {
        return piece.columns * piece.rows * told.tiers.get(piece.tier)[2];
    }

    private int icing(Piece piece) {
        return icing(told.tiers.get(piece.tier), piece.column, piece.row, piece.columns, piece.rows);
    }

    /** Cell by cell, side by side. */
    private static int icing(int[] tier, int column, int row, int columns, int rows) {
        int sides = 0;
        for (int c = column; c < column + columns; c++) {
            for (int r = row; r < row + rows; r++) {
                sides += (c == 0 ? 1 : 0) + (r == 0 ? 1 : 0) + (c == tier[0] - 1 ? 1 : 0) + (r == tier[1] - 1 ? 1 : 0);
            }
        }
        return sides;
    }

    private static int held(Table table, int guest) {
        for (int i = 0; i < table.pieces.size(); i++) {
            if (table.pieces.get(i).plate == guest) {
                return i;
            }
        }
        return -1;
    }

    private int outcome(String formula, Piece piece, int sweet, int along) {
        if (!told.formulas.containsKey(formula)) {
            return formula.equals("worth") ? area(piece) : 0;
        }
        return told.formulas.get(formula).applyAsInt(Map.of("area", area(piece), "icing", icing(piece), "sweet", sweet,
            "broken", piece.broken ? 1 : 0, "long", along, "minute", now.minute));
    }

    private int worthOf(int guest, Piece piece) {
        return outcome("worth", piece, told.guests.get(guest)[1], 0);
    }

    int piece(int piece, int what) {
        if (!isPiece(piece) || what < 0 || what > 8) {
            return -2;
        }
        Piece it = now.pieces.get(piece);
        return new int[] {it.tier, it.column, it.row, it.columns, it.rows, area(it), icing(it), it.broken ? 1 : 0, it.plate}[what];
    }

    int guest(int guest, int what) {
        if (!isGuest(guest) || what < 0 || what > 4) {
            return -2;
        }
        int piece = held(now, guest);
        return what < 3 ? told.guests.get(guest)[what] : what == 3 ? piece : piece < 0 ? 0 : worth(guest, piece);
    }

    int worth(int guest, int piece) {
        return isGuest(guest) && isPiece(piece) ? worthOf(guest, now.pieces.get(piece)) : NO_WORTH;
    }

    // ---- acts ----

    private boolean canCut(int piece, int way, int behind) {
        if (!isPiece(piece) || now.pieces.get(piece).plate >= 0 || now.pieces.size() >= 24 || way < 0 || way > 1) {
            return false;
        }
        return behind >= 1 && behind < (way == 0 ? now.pieces.get(piece).columns : now.pieces.get(piece).rows);
    }

    /** What lies ahead and what lies behind. */
    private static Piece[] parts(Piece whole, int way, int behind) {
        Piece[] parts = {whole.copy(), whole.copy()};
        if (way == 0) {
            parts[0].columns = behind;
            parts[1].column += behind;
            parts[1].columns -= behind;
        } else {
            parts[0].rows = behind;
            parts[1].row += behind;
            parts[1].rows -= behind;
        }
        return parts;
    }

    private int slipOf(int piece, int way) {
        Piece it = now.pieces.get(piece);
        return outcome("slip", it, 0, way == 0 ? it.rows : it.columns);
    }

    int slip(int piece, int way, int behind) {
        return canCut(piece, way, behind) ? Math.max(0, Math.min(100, slipOf(piece, way))) : -1;
    }

    private void keep() {
        before.add(now.copy());
        after.clear();
        if (before.size() > 40) {
            before.remove(0);
        }
    }

    int cut(int piece, int way, int behind) {
        if (!canCut(piece, way, behind)) {
            return -1;
        }
        keep();
        int slips = slipOf(piece, way);
        Piece[] parts = parts(now.pieces.get(piece), way, behind);
        now.seed = (now.seed * 137 + 71) % 1000;
        parts[1].broken |= now.seed % 100 < slips;
        now.pieces.set(piece, parts[0]);
        now.pieces.add(parts[1]);
        now.minute += told.numbers.getOrDefault("pace", 1);
        return now.pieces.size() - 1;
    }

    int give(int piece, int guest) {
        if (!isPiece(piece) || !isGuest(guest) || now.pieces.get(piece).plate >= 0 || held(now, guest) >= 0) {
            return -1;
        }
        keep();
        now.pieces.get(piece).plate = guest;
        return (int) now.pieces.stream().filter(each -> each.plate >= 0).count();
    }

    int back(int guest) {
        int piece = isGuest(guest) ? held(now, guest) : -1;
        if (piece >= 0) {
            keep();
            now.pieces.get(piece).plate = -1;
        }
        return piece;
    }

    int exchange(int guest, int other) {
        if (!isGuest(guest) || !isGuest(other) || guest == other || held(now, guest) < 0 || held(now, other) < 0) {
            return -1;
        }
        keep();
        swap(now, guest, other);
        return held(now, guest);
    }

    private static void swap(Table table, int guest, int other) {
        int mine = held(table, guest);
        int his = held(table, other);
        table.pieces.get(mine).plate = other;
        table.pieces.get(his).plate = guest;
    }

    private boolean step(List<Table> from, List<Table> to) {
        if (from.isEmpty()) {
            return false;
        }
        to.add(now);
        now = from.remove(from.size() - 1);
        return true;
    }

    boolean undo() {
        return step(before, after);
    }

    boolean redo() {
        return step(after, before);
    }

    // ---- who can be served ----

    private List<Integer> free() {
        List<Integer> free = new ArrayList<>();
        for (int i = 0; i < now.pieces.size(); i++) {
            if (now.pieces.get(i).plate < 0) {
                free.add(i);
            }
        }
        return free;
    }

    private List<Integer> waiting() {
        List<Integer> waiting = new ArrayList<>();
        for (int guest = 0; guest < told.guests.size(); guest++) {
            if (held(now, guest) < 0) {
                waiting.add(guest);
            }
        }
        return waiting;
    }

    private List<Integer> areas() {
        List<Integer> areas = new ArrayList<>();
        for (int piece : free()) {
            areas.add(area(now.pieces.get(piece)));
        }
        return areas;
    }

    private List<Integer> wants(int more) {
        List<Integer> wants = new ArrayList<>();
        for (int guest : waiting()) {
            wants.add(Math.max(0, told.guests.get(guest)[0] + more));
        }
        return wants;
    }

    /** One guest after the other is given a piece, and others give way if they can have another one. */
    private static int mostServed(List<Integer> wants, List<Integer> areas) {
        int[] whose = new int[areas.size()];
        Arrays.fill(whose, -1);
        int served = 0;
        for (int guest = 0; guest < wants.size(); guest++) {
            served += findsPiece(guest, wants, areas, whose, new boolean[areas.size()]) ? 1 : 0;
        }
        return served;
    }

    private static boolean findsPiece(int guest, List<Integer> wants, List<Integer> areas, int[] whose, boolean[] tried) {
        for (int i = 0; i < whose.length; i++) {
            if (!tried[i] && areas.get(i) >= wants.get(guest)) {
                tried[i] = true;
                if (whose[i] < 0 || findsPiece(whose[i], wants, areas, whose, tried)) {
                    whose[i] = guest;
                    return true;
                }
            }
        }
        return false;
    }

    int feeds(int guest) {
        if (!isGuest(guest)) {
            return -1;
        }
        int set = 0;
        for (int piece : free()) {
            set += told.guests.get(guest)[0] <= area(now.pieces.get(piece)) ? 1 << piece : 0;
        }
        return set;
    }

    int served() {
        return mostServed(wants(0), areas());
    }

    int law(int n) {
        return n < -99 || n > 99 ? -1 : mostServed(wants(n), areas());
    }

    int hungry() {
        int set = 0;
        for (int guest : waiting()) {
            set += feeds(guest) == 0 ? 1 << guest : 0;
        }
        return set;
    }

    int next(int what) {
        int[] best = {-1, -1, -1, -1};
        for (int piece = 0; piece < now.pieces.size(); piece++) {
            for (int way = 0; way < 2; way++) {
                for (int behind = 1; canCut(piece, way, behind); behind++) {
                    List<Integer> areas = areas();
                    areas.remove((Integer) area(now.pieces.get(piece)));
                    for (Piece part : parts(now.pieces.get(piece), way, behind)) {
                        areas.add(area(part));
                    }
                    int serves = mostServed(wants(0), areas);
                    best = serves > best[3] ? new int[] {piece, way, behind, serves} : best;
                }
            }
        }
        return what < 0 || what > 3 ? -1 : best[what];
    }

    int room(int guest) {
        if (!isGuest(guest) || held(now, guest) >= 0) {
            return -1;
        }
        List<Integer> others = wants(0);
        others.remove(waiting().indexOf(guest));
        int room = -1;
        for (int more = 0; more <= 1728; more++) {
            int want = told.guests.get(guest)[0] + more;
            boolean his = false;
            for (int area : areas()) {
                List<Integer> rest = areas();
                rest.remove((Integer) area);
                his |= area >= want && mostServed(others, rest) + 1 == served();
            }
            if (!his) {
                break;
            }
            room = more;
        }
        return room;
    }

    // ---- envy ----

    private int envied(Table table, int guest) {
        int own = held(table, guest) < 0 ? 0 : worthOf(guest, table.pieces.get(held(table, guest)));
        int set = 0;
        for (Piece piece : table.pieces) {
            if (piece.plate >= 0 && piece.plate != guest && worthOf(guest, piece) > own) {
                set |= 1 << piece.plate;
            }
        }
        return set;
    }

    private int quarrel(Table table) {
        int all = 0;
        for (int guest = 0; guest < told.guests.size(); guest++) {
            all += Integer.bitCount(envied(table, guest));
        }
        return all;
    }

    int envies(int guest) {
        return isGuest(guest) ? envied(now, guest) : -1;
    }

    int quarrel() {
        return quarrel(now);
    }

    int calm(int what) {
        int[] best = {-1, -1, quarrel()};
        for (int first = 0; first < told.guests.size(); first++) {
            for (int other = first + 1; other < told.guests.size(); other++) {
                if (held(now, first) >= 0 && held(now, other) >= 0) {
                    Table then = now.copy();
                    swap(then, first, other);
                    best = quarrel(then) < best[2] ? new int[] {first, other, quarrel(then)} : best;
                }
            }
        }
        return what < 0 || what > 2 || best[0] < 0 ? -1 : best[what];
    }

    // ---- one who cuts, guests who pick ----

    /** The way, behind how many, which part the second one picks, and what the other part is worth; or null. */
    private int[] halves(int piece, int guest, int other) {
        int[] best = null;
        if (!isGuest(guest) || !isGuest(other) || guest == other) {
            return best;
        }
        for (int way = 0; way < 2; way++) {
            for (int behind = 1; canCut(piece, way, behind); behind++) {
                Piece[] parts = parts(now.pieces.get(piece), way, behind);
                int picked = worthOf(other, parts[0]) >= worthOf(other, parts[1]) ? 0 : 1;
                int left = worthOf(guest, parts[1 - picked]);
                best = best == null || left > best[3] ? new int[] {way, behind, picked, left} : best;
            }
        }
        return best;
    }

    int halve(int piece, int guest, int other, int what) {
        int[] halves = halves(piece, guest, other);
        return halves == null || what < 0 || what > 2 ? -1 : halves[what];
    }

    int share(int piece, int guest, int other) {
        int[] halves = halves(piece, guest, other);
        return halves == null ? NO_WORTH : halves[3];
    }

    private int favourite(int guest, List<Integer> pieces) {
        int best = -1;
        for (int piece : pieces) {
            best = best < 0 || worth(guest, piece) > worth(guest, best) ? piece : best;
        }
        return best;
    }

    int best(int guest) {
        return isGuest(guest) ? favourite(guest, free()) : -1;
    }

    int picks() {
        List<Integer> pieces = free();
        lying = new ArrayList<>();
        int got = 0;
        for (int guest = 0; guest < told.guests.size(); guest++) {
            int piece = held(now, guest) < 0 ? favourite(guest, pieces) : -1;
            pieces.remove((Integer) piece);
            lying.add(piece);
            got += piece >= 0 ? 1 : 0;
        }
        return got;
    }

    private long leastBy(List<Integer> order) {
        List<Integer> pieces = free();
        long least = Long.MAX_VALUE;
        for (int guest : order) {
            int piece = favourite(guest, pieces);
            pieces.remove((Integer) piece);
            least = Math.min(least, piece < 0 ? 0 : worth(guest, piece));
        }
        return least;
    }

    private static void orders(List<Integer> begun, List<Integer> left, List<List<Integer>> all) {
        if (left.isEmpty()) {
            all.add(begun);
        }
        for (Integer guest : left) {
            List<Integer> longer = new ArrayList<>(begun);
            longer.add(guest);
            List<Integer> fewer = new ArrayList<>(left);
            fewer.remove(guest);
            orders(longer, fewer, all);
        }
    }

    int order() {
        lying = new ArrayList<>();
        List<List<Integer>> all = new ArrayList<>();
        orders(new ArrayList<>(), waiting(), all);
        long most = Long.MIN_VALUE;
        for (List<Integer> order : all) {
            if (!order.isEmpty() && leastBy(order) > most) {
                most = leastBy(order);
                lying = order;
            }
        }
        return lying.isEmpty() ? NO_WORTH : (int) most;
    }

    int lies(int i) {
        return i < 0 || i >= lying.size() ? -2 : lying.get(i);
    }

    // ---- pieces alike ----

    /** All p and q for a tier. */
    private List<int[]> pairs(int tier) {
        List<int[]> pairs = new ArrayList<>();
        for (int p = 1; p <= 8; p++) {
            for (int q = 1; q <= 8; q++) {
                if (told.tiers.get(tier)[0] % p == 0 && told.tiers.get(tier)[1] % q == 0) {
                    pairs.add(new int[] {p, q});
                }
            }
        }
        return pairs;
    }

    private List<Integer> icings(int tier, int[] pair) {
        int[] sides = told.tiers.get(tier);
        List<Integer> icings = new ArrayList<>();
        for (int column = 0; column < sides[0]; column += sides[0] / pair[0]) {
            for (int row = 0; row < sides[1]; row += sides[1] / pair[1]) {
                icings.add(icing(sides, column, row, sides[0] / pair[0], sides[1] / pair[1]));
            }
        }
        icings.sort(null);
        return icings;
    }

    int ways(int tier, int n) {
        if (!isTier(tier) || n < 1 || n > 64) {
            return -1;
        }
        return (int) pairs(tier).stream().filter(pair -> pair[0] * pair[1] == n).count();
    }

    int grid(int tier, int n, int what) {
        if (ways(tier, n) < 1 || what < 0 || what > 3) {
            return -1;
        }
        int[] best = null;
        for (int[] pair : pairs(tier)) {
            List<Integer> icings = icings(tier, pair);
            int[] found = {pair[0], pair[1], pair[0] + pair[1] - 2, icings.get(icings.size() - 1) - icings.get(0)};
            boolean better = best == null || found[2] < best[2] || found[2] == best[2] && found[3] < best[3];
            best = pair[0] * pair[1] == n && better ? found : best;
        }
        return best[what];
    }

    int most(int tier, int n) {
        int most = -1;
        if (isTier(tier) && n >= 1 && n <= 999) {
            int[] sides = told.tiers.get(tier);
            for (int[] pair : pairs(tier)) {
                boolean enough = sides[0] / pair[0] * (sides[1] / pair[1]) * sides[2] >= n;
                most = enough ? Math.max(most, pair[0] * pair[1]) : most;
            }
        }
        return most;
    }

    // ---- looks at the table ----

    int where(int tier, int column, int row) {
        for (int i = 0; i < now.pieces.size(); i++) {
            Piece it = now.pieces.get(i);
            for (int c = it.column; c < it.column + it.columns; c++) {
                for (int r = it.row; r < it.row + it.rows; r++) {
                    if (it.tier == tier && c == column && r == row) {
                        return i;
                    }
                }
            }
        }
        return -1;
    }

    int left() {
        return areas().stream().mapToInt(area -> area).sum();
    }

    int iced(int n) {
        int set = 0;
        for (int piece : free()) {
            set += icing(now.pieces.get(piece)) >= n ? 1 << piece : 0;
        }
        return n < 0 || n > 32 ? -1 : set;
    }

    int come(int set, int part) {
        if (part < 0 || part > 1 || Integer.bitCount(set) > 4) {
            return -1;
        }
        BigInteger upper = BigInteger.ONE;
        BigInteger lower = BigInteger.ONE;
        for (int guest = 0; guest < 32; guest++) {
            if ((set >>> guest & 1) == 1) {
                if (!isGuest(guest)) {
                    return -1;
                }
                upper = upper.multiply(BigInteger.valueOf(told.guests.get(guest)[2]));
                lower = lower.multiply(BigInteger.valueOf(100));
            }
        }
        return (part == 0 ? upper : lower).divide(upper.gcd(lower)).intValueExact();
    }

    // ---- how a cake was cut long ago ----

    private int tell(int kind, int number, boolean is) {
        if (told.tiers.isEmpty() || seen.size() >= 30) {
            return -1;
        }
        seen.add(new int[] {kind, number, is ? 1 : 0, time, Integer.MAX_VALUE});
        return seen.size() - 1;
    }

    int sized(int cells, boolean is) {
        return cells < 1 || cells > 64 ? -1 : tell(0, cells, is);
    }

    int rimmed(int icing, boolean is) {
        return icing < 0 || icing > 32 ? -1 : tell(1, icing, is);
    }

    boolean untell(int which) {
        if (which < 0 || which >= seen.size() || seen.get(which)[4] != Integer.MAX_VALUE) {
            return false;
        }
        seen.get(which)[4] = time;
        return true;
    }

    int later(int by) {
        if (by < 0 || by > 1000 || time + by > 100000) {
            return -1;
        }
        time += by;
        return time;
    }

    private boolean agrees(int[] pair, int[] it) {
        int[] sides = told.tiers.get(0);
        boolean was = it[0] == 0 ? sides[0] * sides[1] == it[1] * pair[0] * pair[1] : icings(0, pair).contains(it[1]);
        return was == (it[2] == 1);
    }

    private List<int[]> fitting(int k) {
        List<int[]> fitting = told.tiers.isEmpty() ? new ArrayList<>() : pairs(0);
        for (int[] it : seen) {
            // Untold at a time far off is not untold, whatever k is.
            if (it[3] <= k && (it[4] > k || it[4] == Integer.MAX_VALUE)) {
                fitting.removeIf(pair -> !agrees(pair, it));
            }
        }
        return fitting;
    }

    int fits(int k) {
        return fitting(k).size();
    }

    int sure(int what, int k) {
        List<int[]> fitting = fitting(k);
        if (what < 0 || what > 1 || fitting.isEmpty()) {
            return -1;
        }
        int first = fitting.get(0)[what];
        return fitting.stream().allMatch(pair -> pair[what] == first) ? first : -2;
    }

    int ask(int what, int k) {
        List<int[]> fitting = fitting(k);
        int[] best = {-1, Integer.MAX_VALUE};
        for (int icing = 0; icing <= 32; icing++) {
            int[] asked = {1, icing, 1};
            int yes = (int) fitting.stream().filter(pair -> agrees(pair, asked)).count();
            int leaves = Math.max(yes, fitting.size() - yes);
            best = leaves < best[1] ? new int[] {icing, leaves} : best;
        }
        return what < 0 || what > 1 || fitting.isEmpty() ? -1 : best[what];
    }

    // ---- images ----

    int image(int box) {
        if (box < 0 || box > 2) {
            return -1;
        }
        boxes[box] = now.copy();
        return now.pieces.size();
    }

    int restore(int box) {
        if (box < 0 || box > 2 || boxes[box] == null) {
            return -1;
        }
        now = boxes[box].copy();
        before.clear();
        after.clear();
        return now.pieces.size();
    }

    int about(int what) {
        int broken = 0;
        for (int i = 0; i < now.pieces.size(); i++) {
            broken += now.pieces.get(i).broken ? 1 << i : 0;
        }
        int[] all = {told.tiers.size(), told.guests.size(), now.pieces.size(), now.minute, now.seed, broken, before.size(),
            after.size(), seen.size(), time, tape.length(), told.units, lying.size()};
        return what < 0 || what >= all.length ? -1 : all[what];
    }
}
