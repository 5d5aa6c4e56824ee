import java.util.Random;

/** Answers of many random runs against plain countings, which act, look and undo where a call only thinks. */
public final class RandomRunsTest {
    private static final Due DUE = new Due("RandomRunsTest");
    private static final int NO_WORTH = -1000000000;

    public static void main(String[] args) {
        for (int seed = 0; seed < 400; seed++) {
            Random random = new Random(seed);
            ThreeTiers x = Due.cake(text(random, true));
            stir(x, random, random.nextInt(25));
            looks(x);
            serving(x);
            nexts(x);
            rooms(x);
            envies(x);
            calms(x);
            halves(x);
            orders(x);
            grids(x);
            fits(x, random);
            // Again with as many plates filled as can be.
            for (int guest = 0; guest < x.about(1); guest++) {
                x.give(random.nextInt(x.about(2)), guest);
                x.give(random.nextInt(x.about(2)), guest);
            }
            envies(x);
            calms(x);
            orders(x);
        }
        for (int seed = 0; seed < 300; seed++) {
            anyCalls(new Random(seed));
        }
        for (int seed = 0; seed < 3000; seed++) {
            spoiled(new Random(seed));
        }
        DUE.finish();
    }

    private static String text(Random random, boolean still) {
        StringBuilder all = new StringBuilder();
        int tiers = 1 + random.nextInt(3);
        for (int i = 0; i < tiers; i++) {
            all.append("tier ").append((char) ('a' + i)).append(' ').append(1 + random.nextInt(8)).append(" by ")
                    .append(1 + random.nextInt(8)).append(" high ").append(1 + random.nextInt(9)).append(";\n");
        }
        int guests = random.nextInt(7);
        for (int i = 0; i < guests; i++) {
            all.append("guest ").append((char) ('a' + i)).append(" wants ").append(random.nextInt(60));
            if (random.nextBoolean()) {
                all.append(" sweet ").append(random.nextInt(10));
            }
            if (random.nextBoolean()) {
                all.append(" comes ").append(random.nextInt(101));
            }
            all.append(";");
        }
        all.append("worth ").append(formula(random, 3, !still)).append(";");
        if (still) {
            // Nothing slips and the clock stands, so that an act and its undoing tell what a thought should.
            return all.append("pace 0;").toString();
        }
        return all.append("slip ").append(formula(random, 3, true)).append(";pace ").append(random.nextInt(61))
                .append(";draw ").append(random.nextInt(1000)).append(";").toString();
    }

    private static String formula(Random random, int depth, boolean withMinute) {
        if (depth == 0 || random.nextInt(4) == 0) {
            String[] units = {"area", "icing", "sweet", "broken", "long", "minute"};
            int which = random.nextInt(7);
            return which == 6 ? "" + random.nextInt(200) : units[which];
        }
        String[] signs = {"+", "-", "*", "/", "%", "<", ">", "=", " and ", " or "};
        String left = formula(random, depth - 1, withMinute);
        String right = formula(random, depth - 1, withMinute);
        String joined = left + signs[random.nextInt(4) == 0 ? random.nextInt(10) : random.nextInt(3)] + right;
        return depth < 3 ? "(" + joined + ")" : random.nextInt(5) == 0 ? "not (" + joined + ")" : joined;
    }

    private static void stir(ThreeTiers x, Random random, int acts) {
        for (int i = 0; i < acts; i++) {
            switch (random.nextInt(6)) {
                case 0:
                    x.give(random.nextInt(x.about(2)), random.nextInt(6));
                    break;
                case 1:
                    x.back(random.nextInt(6));
                    break;
                default:
                    x.cut(random.nextInt(x.about(2)), random.nextInt(2), 1 + random.nextInt(7));
            }
        }
    }

    private static boolean free(ThreeTiers x, int piece) {
        return x.piece(piece, 8) == -1;
    }

    private static boolean waits(ThreeTiers x, int guest) {
        return x.guest(guest, 3) == -1;
    }

    private static void looks(ThreeTiers x) {
        int area = 0;
        int cells = 0;
        for (int piece = 0; piece < x.about(2); piece++) {
            int icing = 0;
            for (int column = -1; column <= 8; column++) {
                for (int row = -1; row <= 8; row++) {
                    if (x.where(x.piece(piece, 0), column, row) == piece) {
                        cells++;
                        icing += x.where(x.piece(piece, 0), column - 1, row) < 0 ? 1 : 0;
                        icing += x.where(x.piece(piece, 0), column + 1, row) < 0 ? 1 : 0;
                        icing += x.where(x.piece(piece, 0), column, row - 1) < 0 ? 1 : 0;
                        icing += x.where(x.piece(piece, 0), column, row + 1) < 0 ? 1 : 0;
                    }
                }
            }
            DUE.is("icing", x.piece(piece, 6), icing);
            DUE.is("iced", x.iced(icing) >> piece & 1, free(x, piece) ? 1 : 0);
            DUE.is("iced", icing == 32 ? 0 : x.iced(icing + 1) >> piece & 1, 0);
            cells -= x.piece(piece, 3) * x.piece(piece, 4);
            area += free(x, piece) ? x.piece(piece, 5) : 0;
        }
        DUE.is("cells", cells, 0);
        DUE.is("left()", x.left(), area);
    }

    /** The most guests from this one on who can be given unlike pieces, by trying all. */
    private static int mostServed(int[] wants, int[] areas, int guest, int taken) {
        if (guest == wants.length) {
            return 0;
        }
        int found = mostServed(wants, areas, guest + 1, taken);
        int last = -1;
        for (int i = 0; i < areas.length; i++) {
            // Pieces of one area are alike here.
            if ((taken >> i & 1) == 0 && areas[i] >= wants[guest] && areas[i] != last) {
                last = areas[i];
                found = Math.max(found, 1 + mostServed(wants, areas, guest + 1, taken | 1 << i));
            }
        }
        return found;
    }

    private static int[] wants(ThreeTiers x, int more, int raised, int by) {
        int[] wants = new int[6];
        int n = 0;
        for (int guest = 0; guest < x.about(1); guest++) {
            if (waits(x, guest)) {
                wants[n++] = Math.max(0, x.guest(guest, 0) + more) + (guest == raised ? by : 0);
            }
        }
        return java.util.Arrays.copyOf(wants, n);
    }

    private static int[] areas(ThreeTiers x, int without) {
        int[] areas = new int[24];
        int n = 0;
        for (int piece = 0; piece < x.about(2); piece++) {
            if (free(x, piece) && piece != without) {
                areas[n++] = x.piece(piece, 5);
            }
        }
        int[] sorted = java.util.Arrays.copyOf(areas, n);
        java.util.Arrays.sort(sorted);
        // The six greatest of each area are all that can matter; few enough to try all.
        return sorted.length <= 7 ? sorted : java.util.Arrays.copyOfRange(sorted, n - 7, n);
    }

    private static void serving(ThreeTiers x) {
        DUE.is("served()", x.served(), mostServed(wants(x, 0, -1, 0), areas(x, -1), 0, 0));
        for (int n = -60; n <= 60; n += 7) {
            DUE.is("law(" + n + ")", x.law(n), mostServed(wants(x, n, -1, 0), areas(x, -1), 0, 0));
        }
        int hungry = 0;
        for (int guest = 0; guest < x.about(1); guest++) {
            int feeds = 0;
            for (int piece = 0; piece < x.about(2); piece++) {
                if (free(x, piece) && x.piece(piece, 5) >= x.guest(guest, 0)) {
                    feeds |= 1 << piece;
                }
            }
            DUE.is("feeds(" + guest + ")", x.feeds(guest), feeds);
            hungry |= waits(x, guest) && feeds == 0 ? 1 << guest : 0;
        }
        DUE.is("hungry()", x.hungry(), hungry);
    }

    private static void nexts(ThreeTiers x) {
        int[] best = {-1, -1, -1, -1};
        for (int piece = 0; piece < x.about(2); piece++) {
            for (int way = 0; way < 2; way++) {
                for (int behind = 1; behind < 8; behind++) {
                    if (x.cut(piece, way, behind) >= 0) {
                        if (x.served() > best[3]) {
                            best = new int[] {piece, way, behind, x.served()};
                        }
                        x.undo();
                    }
                }
            }
        }
        for (int what = 0; what < 4; what++) {
            DUE.is("next(" + what + ")", x.next(what), best[what]);
        }
    }

    private static void rooms(ThreeTiers x) {
        for (int guest = 0; guest < x.about(1); guest++) {
            int room = -1;
            if (waits(x, guest)) {
                for (int piece = 0; piece < x.about(2); piece++) {
                    int more = x.piece(piece, 5) - x.guest(guest, 0);
                    if (free(x, piece) && more > room) {
                        // He has this piece, and the others as many as before less himself.
                        int now = x.served();
                        x.give(piece, guest);
                        room = x.served() + 1 == now ? more : room;
                        x.undo();
                    }
                }
            }
            DUE.is("room(" + guest + ")", x.room(guest), room);
            if (room >= 0) {
                DUE.is("served with room", mostServed(wants(x, 0, guest, room), areas(x, -1), 0, 0), x.served());
            }
        }
    }

    private static void envies(ThreeTiers x) {
        int all = 0;
        for (int guest = 0; guest < x.about(1); guest++) {
            int set = 0;
            for (int other = 0; other < x.about(1); other++) {
                if (other != guest && !waits(x, other) && x.worth(guest, x.guest(other, 3)) > x.guest(guest, 4)) {
                    set |= 1 << other;
                    all++;
                }
            }
            DUE.is("envies(" + guest + ")", x.envies(guest), set);
        }
        DUE.is("quarrel()", x.quarrel(), all);
    }

    private static void calms(ThreeTiers x) {
        int[] best = {-1, -1, x.quarrel()};
        for (int first = 0; first < x.about(1); first++) {
            for (int other = first + 1; other < x.about(1); other++) {
                if (x.exchange(first, other) >= 0) {
                    if (x.quarrel() < best[2]) {
                        best = new int[] {first, other, x.quarrel()};
                    }
                    x.undo();
                }
            }
        }
        for (int what = 0; what < 3; what++) {
            DUE.is("calm(" + what + ")", x.calm(what), best[0] < 0 ? -1 : best[what]);
        }
    }

    private static void halves(ThreeTiers x) {
        if (x.about(1) < 2) {
            return;
        }
        for (int piece = 0; piece < x.about(2); piece++) {
            int guest = piece % x.about(1);
            int other = (guest + 1) % x.about(1);
            int[] best = {-1, -1, -1};
            int share = NO_WORTH;
            for (int way = 0; way < 2; way++) {
                for (int behind = 1; behind < 8; behind++) {
                    int fresh = x.cut(piece, way, behind);
                    if (fresh >= 0) {
                        boolean second = x.worth(other, fresh) > x.worth(other, piece);
                        int leaves = x.worth(guest, second ? piece : fresh);
                        if (best[0] < 0 || leaves > share) {
                            best = new int[] {way, behind, second ? 1 : 0};
                            share = leaves;
                        }
                        x.undo();
                    }
                }
            }
            for (int what = 0; what < 3; what++) {
                DUE.is("halve(" + piece + ")", x.halve(piece, guest, other, what), best[what]);
            }
            DUE.is("share(" + piece + ")", x.share(piece, guest, other), share);
        }
    }

    private static int[] bestOrder;
    private static long bestLeast;

    /** Plates are really filled along all orders, by best(). */
    private static void allOrders(ThreeTiers x, int[] order, int depth, long least) {
        boolean last = true;
        for (int guest = 0; guest < x.about(1); guest++) {
            boolean waits = waits(x, guest);
            for (int i = 0; i < depth; i++) {
                waits &= order[i] != guest;
            }
            if (waits) {
                last = false;
                order[depth] = guest;
                int piece = x.best(guest);
                int worth = piece < 0 ? 0 : x.worth(guest, piece);
                if (piece >= 0) {
                    x.give(piece, guest);
                }
                allOrders(x, order, depth + 1, Math.min(least, worth));
                if (piece >= 0) {
                    x.undo();
                }
            }
        }
        if (last && depth > 0 && (bestOrder == null || least > bestLeast)) {
            bestOrder = java.util.Arrays.copyOf(order, depth);
            bestLeast = least;
        }
    }

    private static void orders(ThreeTiers x) {
        bestOrder = null;
        allOrders(x, new int[7], 0, Long.MAX_VALUE);
        DUE.is("order()", x.order(), bestOrder == null ? NO_WORTH : bestLeast);
        DUE.is("about(12)", x.about(12), bestOrder == null ? 0 : bestOrder.length);
        for (int i = 0; bestOrder != null && i < bestOrder.length; i++) {
            DUE.is("lies(" + i + ")", x.lies(i), bestOrder[i]);
        }
        int got = x.picks();
        int given = 0;
        int[] picked = new int[x.about(1)];
        for (int guest = 0; guest < x.about(1); guest++) {
            picked[guest] = waits(x, guest) ? x.best(guest) : -1;
            if (picked[guest] >= 0) {
                x.give(picked[guest], guest);
                given++;
            }
        }
        DUE.is("picks()", got, given);
        DUE.is("about(12)", x.about(12), picked.length);
        for (int guest = 0; guest < x.about(1); guest++) {
            DUE.is("picked " + guest, x.lies(guest), picked[guest]);
        }
        for (int i = 0; i < given; i++) {
            x.undo();
        }
    }

    private static int icing(int columns, int rows, int p, int q, int i, int j) {
        return (i == 0 ? rows / q : 0) + (i == p - 1 ? rows / q : 0) + (j == 0 ? columns / p : 0) + (j == q - 1 ? columns / p : 0);
    }

    private static void grids(ThreeTiers x) {
        for (int tier = 0; tier < x.about(0); tier++) {
            int columns = 0;
            int rows = 0;
            while (x.where(tier, columns, 0) >= 0) {
                columns++;
            }
            while (x.where(tier, 0, rows) >= 0) {
                rows++;
            }
            for (int n = 1; n <= 64; n++) {
                int ways = 0;
                int[] best = {-1, -1, 99, 99};
                for (int p = 1; p <= columns; p++) {
                    for (int q = 1; q <= rows; q++) {
                        if (p * q == n && columns % p == 0 && rows % q == 0) {
                            ways++;
                            int most = 0;
                            int least = 99;
                            for (int i = 0; i < n; i++) {
                                most = Math.max(most, icing(columns, rows, p, q, i % p, i / p));
                                least = Math.min(least, icing(columns, rows, p, q, i % p, i / p));
                            }
                            if (p + q - 2 < best[2] || p + q - 2 == best[2] && most - least < best[3]) {
                                best = new int[] {p, q, p + q - 2, most - least};
                            }
                        }
                    }
                }
                DUE.is("ways(" + tier + ", " + n + ")", x.ways(tier, n), ways);
                for (int what = 0; what < 4; what++) {
                    DUE.is("grid(" + tier + ", " + n + ", " + what + ")", x.grid(tier, n, what), ways == 0 ? -1 : best[what]);
                }
            }
        }
    }

    private static void fits(ThreeTiers x, Random random) {
        int columns = 0;
        int rows = 0;
        while (x.where(0, columns, 0) >= 0) {
            columns++;
        }
        while (x.where(0, 0, rows) >= 0) {
            rows++;
        }
        // What is told is so of one pair, so that something fits.
        int p = columns;
        int q = rows % 2 == 0 ? rows / 2 : rows;
        int[][] seen = new int[8][];
        int told = 0;
        for (int step = 0; step < 16; step++) {
            int now = x.about(9);
            if (random.nextInt(3) == 0) {
                x.later(random.nextInt(3));
            } else if (random.nextInt(3) == 0 && told > 0) {
                int which = random.nextInt(told);
                DUE.is("untell", x.untell(which), seen[which][4] < 0);
                seen[which][4] = seen[which][4] < 0 ? now : seen[which][4];
            } else if (told < seen.length) {
                boolean sized = random.nextBoolean();
                int number = sized ? 1 + random.nextInt(8) : random.nextInt(9);
                boolean is = was(columns, rows, p, q, sized, number);
                DUE.is("told", sized ? x.sized(number, is) : x.rimmed(number, is), told);
                seen[told] = new int[] {sized ? 1 : 0, number, is ? 1 : 0, now, -1};
                told++;
            }
        }
        for (int k = -1; k <= x.about(9) + 1; k++) {
            fitsAt(x, k, columns, rows, seen);
        }
    }

    private static boolean was(int columns, int rows, int p, int q, boolean sized, int number) {
        boolean was = false;
        for (int i = 0; i < p * q; i++) {
            was |= (sized ? columns / p * (rows / q) : icing(columns, rows, p, q, i % p, i / p)) == number;
        }
        return was;
    }

    private static void fitsAt(ThreeTiers x, int k, int columns, int rows, int[][] seen) {
        int n = 0;
        int[] yes = new int[33];
        int sameP = -1;
        int sameQ = -1;
        for (int p = 1; p <= columns; p++) {
            for (int q = 1; q <= rows; q++) {
                boolean fits = columns % p == 0 && rows % q == 0;
                for (int i = 0; i < seen.length && fits && seen[i] != null; i++) {
                    boolean counts = seen[i][3] <= k && (seen[i][4] < 0 || seen[i][4] > k);
                    fits = !counts || was(columns, rows, p, q, seen[i][0] == 1, seen[i][1]) == (seen[i][2] == 1);
                }
                if (fits) {
                    sameP = n == 0 || sameP == p ? p : -2;
                    sameQ = n == 0 || sameQ == q ? q : -2;
                    n++;
                    for (int icing = 0; icing <= 32; icing++) {
                        yes[icing] += was(columns, rows, p, q, false, icing) ? 1 : 0;
                    }
                }
            }
        }
        int ask = 0;
        for (int icing = 1; icing <= 32; icing++) {
            ask = Math.max(yes[icing], n - yes[icing]) < Math.max(yes[ask], n - yes[ask]) ? icing : ask;
        }
        DUE.is("fits(" + k + ")", x.fits(k), n);
        DUE.is("sure(0, " + k + ")", x.sure(0, k), sameP);
        DUE.is("sure(1, " + k + ")", x.sure(1, k), sameQ);
        DUE.is("ask(0, " + k + ")", x.ask(0, k), n == 0 ? -1 : ask);
        DUE.is("ask(1, " + k + ")", x.ask(1, k), n == 0 ? -1 : Math.max(yes[ask], n - yes[ask]));
    }

    private static int odd(Random random) {
        switch (random.nextInt(12)) {
            case 0:
                return Integer.MIN_VALUE + random.nextInt(2);
            case 1:
                return Integer.MAX_VALUE - random.nextInt(2);
            case 2:
                return -1 - random.nextInt(3);
            case 3:
                return random.nextInt(2000);
            case 4:
                return 20 + random.nextInt(50);
            default:
                return random.nextInt(8);
        }
    }

    /** Whatever is called with whatever: no call throws, and 512 calls keep the table whole. */
    private static void anyCalls(Random random) {
        ThreeTiers x = new ThreeTiers();
        if (random.nextInt(10) > 0) {
            Due.tell(x, text(random, false));
        }
        for (int i = 0; i < 400; i++) {
            AnyCall.make(x, random.nextInt(AnyCall.CALLS), odd(random), odd(random), odd(random), odd(random));
        }
        int area = 0;
        for (int piece = 0; piece < x.about(2); piece++) {
            area += free(x, piece) ? x.piece(piece, 5) : 0;
            int plate = x.piece(piece, 8);
            DUE.is("plate and piece", plate < 0 || x.guest(plate, 3) == piece, true);
        }
        DUE.is("left()", x.left(), area);
        for (int guest = 0; guest < x.about(1); guest++) {
            DUE.is("piece and plate", waits(x, guest) || x.piece(x.guest(guest, 3), 8) == guest, true);
        }
        String table = Due.table(x);
        int undone = 0;
        while (x.undo()) {
            undone++;
        }
        for (int i = 0; i < undone; i++) {
            x.redo();
        }
        DUE.is("undone and redone", table.equals(Due.table(x)), true);
    }

    /** A text with one byte changed, left out or put in is told or has a fault within it. */
    private static void spoiled(Random random) {
        StringBuilder text = new StringBuilder(text(random, false));
        String signs = "abz 059;()<>=+-*/%\n$A";
        for (int i = 0; i <= random.nextInt(3); i++) {
            int at = random.nextInt(text.length());
            char sign = signs.charAt(random.nextInt(signs.length()));
            switch (random.nextInt(3)) {
                case 0:
                    text.setCharAt(at, sign);
                    break;
                case 1:
                    text.insert(at, sign);
                    break;
                default:
                    text.deleteCharAt(at);
            }
        }
        ThreeTiers x = new ThreeTiers();
        int tiers = Due.tell(x, text.toString());
        DUE.is("told or not", tiers >= 0, x.fault(0) == 0);
        if (tiers < 0) {
            int place = x.fault(1);
            DUE.is("fault's place", place >= 0 && place <= text.length(), true);
            // What stands ahead of the place has no earlier fault by itself, but that it ends there.
            ThreeTiers y = new ThreeTiers();
            int ahead = Due.tell(y, text.substring(0, place));
            DUE.is("ahead of the fault", ahead >= 0 || y.fault(0) == 2 && y.fault(1) == place, true);
        }
    }
}
