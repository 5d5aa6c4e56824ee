/** A cake in tiers, cut and put on plates as DOC.md tells; see README.md. */
public final class ThreeTiers {
    public static final int NONE = -1;

    private static final int NO_SUCH = -2;
    private static final int NO_WORTH = -1000000000;
    private static final int MOST_BYTES = 1600;
    private static final int BYTES_A_FEED = 20;
    private static final int MOST_TIERS = 3;
    private static final int MOST_GUESTS = 6;
    private static final int MOST_PIECES = 24;
    private static final int MOST_ACTS = 40;
    private static final int MOST_SEEN = 30;
    private static final int MOST_SIDE = 8;
    private static final int MOST_CELLS = 64;
    private static final int MOST_ICING = 32;
    private static final int MOST_WANTED = 999;
    private static final int MOST_BOXES = 3;
    private static final int COLUMN_WAY = 0;
    private static final int ROW_WAY = 1;

    private final byte[] tape;
    private int tapeLength;
    private final Recipe recipe;
    private final Recipe draft;
    private final Reader reader;
    private final Board board;
    private final Board[] boxes;
    private final Taste taste;
    private final Acts acts;
    private final Serving serving;
    private final Picking picking;
    private final Grids grids;
    private final Lore lore;
    private final int[] lying;
    private int lyingCount;

    public ThreeTiers() {
        tape = new byte[MOST_BYTES];
        recipe = new Recipe();
        draft = new Recipe();
        reader = new Reader(tape, draft);
        board = new Board();
        boxes = new Board[MOST_BOXES];
        for (int i = 0; i < MOST_BOXES; i++) {
            boxes[i] = new Board();
        }
        taste = new Taste(recipe, board);
        acts = new Acts(recipe, board, taste);
        serving = new Serving(recipe, board);
        picking = new Picking(recipe, board, taste);
        grids = new Grids();
        lore = new Lore(recipe, grids);
        lying = new int[MOST_GUESTS];
    }

    // ---- the tape and the cake ----

    public int feed(int a, int b, int c, int d, int e) {
        if (tapeLength > MOST_BYTES - BYTES_A_FEED) {
            return NONE;
        }
        putOnTape(a);
        putOnTape(b);
        putOnTape(c);
        putOnTape(d);
        putOnTape(e);
        return tapeLength;
    }

    private void putOnTape(int four) {
        for (int shift = 24; shift >= 0; shift -= 8) {
            if (tapeLength < tape.length) {
                tape[tapeLength] = (byte) (four >> shift);
                tapeLength++;
            }
        }
    }

    public int end(int n) {
        if (n < 0 || n > tapeLength) {
            return NONE;
        }
        tapeLength = n;
        return n;
    }

    public int cake() {
        boolean sound = reader.readAll(tapeLength);
        // The tape is used up by a faulty text too.
        tapeLength = 0;
        if (!sound) {
            return NONE;
        }
        recipe.takeFrom(draft);
        board.lay(recipe);
        for (int i = 0; i < boxes.length; i++) {
            boxes[i].kept = false;
        }
        acts.forget();
        lore.forget();
        lyingCount = 0;
        return recipe.tiers;
    }

    public int fault(int what) {
        switch (what) {
            case 0:
                return reader.faultKind;
            case 1:
                return reader.faultPlace;
            default:
                return NONE;
        }
    }

    // ---- what is on the table ----

    public int piece(int piece, int what) {
        if (!board.isPiece(piece)) {
            return NO_SUCH;
        }
        Slab slab = board.slabs[piece];
        switch (what) {
            case 0:
                return slab.tier;
            case 1:
                return slab.column;
            case 2:
                return slab.row;
            case 3:
                return slab.columns;
            case 4:
                return slab.rows;
            case 5:
                return recipe.areaOf(slab);
            case 6:
                return recipe.icingOf(slab);
            case 7:
                return slab.broken ? 1 : 0;
            case 8:
                return slab.plate;
            default:
                return NO_SUCH;
        }
    }

    public int guest(int guest, int what) {
        if (!recipe.isGuest(guest)) {
            return NO_SUCH;
        }
        switch (what) {
            case 0:
                return recipe.wants[guest];
            case 1:
                return recipe.sweet[guest];
            case 2:
                return recipe.comes[guest];
            case 3:
                return board.held[guest];
            case 4:
                return taste.ofPiece(guest, board.held[guest], 0);
            default:
                return NO_SUCH;
        }
    }

    public int worth(int guest, int piece) {
        if (!recipe.isGuest(guest)) {
            return NO_WORTH;
        }
        return taste.ofPiece(guest, piece, NO_WORTH);
    }

    public int slip(int piece, int way, int behind) {
        if (!board.canSplit(piece, way, behind)) {
            return NONE;
        }
        return Math.max(0, Math.min(100, taste.slipOf(piece, way)));
    }

    // ---- acts ----

    public int cut(int piece, int way, int behind) {
        if (!board.canSplit(piece, way, behind)) {
            return NONE;
        }
        acts.perform(Acts.SPLIT, piece, way, behind);
        return board.count - 1;
    }

    public int give(int piece, int guest) {
        if (!recipe.isGuest(guest) || !board.isFree(piece) || board.held[guest] != NONE) {
            return NONE;
        }
        acts.perform(Acts.PUT, piece, guest, 0);
        return board.platesFilled();
    }

    public int back(int guest) {
        if (!recipe.isGuest(guest) || board.held[guest] == NONE) {
            return NONE;
        }
        int piece = board.held[guest];
        acts.perform(Acts.LIFT, piece, guest, 0);
        return piece;
    }

    public int exchange(int guest, int other) {
        if (!areTwoGuests(guest, other)) {
            return NONE;
        }
        if (board.held[guest] == NONE || board.held[other] == NONE) {
            return NONE;
        }
        acts.perform(Acts.TRADE, guest, other, 0);
        return board.held[guest];
    }

    public boolean undo() {
        return acts.takeBack();
    }

    public boolean redo() {
        return acts.doAgain();
    }

    // ---- who can be served ----

    public int feeds(int guest) {
        if (!recipe.isGuest(guest)) {
            return NONE;
        }
        return serving.feeders(guest);
    }

    public int served() {
        return serving.servedIf(0);
    }

    public int next(int what) {
        if (!serving.findCut()) {
            return NONE;
        }
        switch (what) {
            case 0:
                return serving.cutPiece;
            case 1:
                return serving.cutWay;
            case 2:
                return serving.cutBehind;
            case 3:
                return serving.cutServes;
            default:
                return NONE;
        }
    }

    public int room(int guest) {
        if (!recipe.isGuest(guest) || board.held[guest] != NONE) {
            return NONE;
        }
        return serving.roomOf(guest);
    }

    public int hungry() {
        int set = 0;
        for (int guest = 0; guest < recipe.guests; guest++) {
            if (board.held[guest] == NONE && serving.feeders(guest) == 0) {
                set |= 1 << guest;
            }
        }
        return set;
    }

    public int law(int n) {
        if (n < -99 || n > 99) {
            return NONE;
        }
        return serving.servedIf(n);
    }

    // ---- envy ----

    public int envies(int guest) {
        if (!recipe.isGuest(guest)) {
            return NONE;
        }
        return taste.enviedBy(guest);
    }

    public int quarrel() {
        int all = 0;
        for (int guest = 0; guest < recipe.guests; guest++) {
            all += Integer.bitCount(taste.enviedBy(guest));
        }
        return all;
    }

    public int calm(int what) {
        if (!taste.findCalm()) {
            return NONE;
        }
        switch (what) {
            case 0:
                return taste.calmFirst;
            case 1:
                return taste.calmOther;
            case 2:
                return taste.calmLeaves;
            default:
                return NONE;
        }
    }

    // ---- one who cuts, guests who pick ----

    public int halve(int piece, int guest, int other, int what) {
        if (!areTwoGuests(guest, other) || !picking.findHalves(piece, guest, other)) {
            return NONE;
        }
        switch (what) {
            case 0:
                return picking.halfWay;
            case 1:
                return picking.halfBehind;
            case 2:
                return picking.halfPicked;
            default:
                return NONE;
        }
    }

    public int share(int piece, int guest, int other) {
        if (!areTwoGuests(guest, other) || !picking.findHalves(piece, guest, other)) {
            return NO_WORTH;
        }
        return picking.halfWorth;
    }

    private boolean areTwoGuests(int guest, int other) {
        return recipe.isGuest(guest) && recipe.isGuest(other) && guest != other;
    }

    public int picks() {
        lyingCount = recipe.guests;
        return picking.pickByNumber(lying);
    }

    public int order() {
        lyingCount = picking.findOrder(lying);
        return lyingCount == 0 ? NO_WORTH : picking.orderLeast;
    }

    public int best(int guest) {
        if (!recipe.isGuest(guest)) {
            return NONE;
        }
        int found = NONE;
        int most = 0;
        for (int piece = 0; piece < board.count; piece++) {
            if (board.isFree(piece)) {
                int worth = taste.ofPiece(guest, piece, 0);
                if (found == NONE || worth > most) {
                    found = piece;
                    most = worth;
                }
            }
        }
        return found;
    }

    public int lies(int i) {
        if (i < 0 || i >= lyingCount || i >= lying.length) {
            return NO_SUCH;
        }
        return lying[i];
    }

    // ---- pieces alike ----

    public int grid(int tier, int n, int what) {
        if (!canBeAlike(tier, n) || grids.search(recipe.tierColumns[tier], recipe.tierRows[tier], n) == 0) {
            return NONE;
        }
        switch (what) {
            case 0:
                return grids.beside;
            case 1:
                return grids.behind;
            case 2:
                return grids.cuts;
            case 3:
                return grids.difference;
            default:
                return NONE;
        }
    }

    public int ways(int tier, int n) {
        if (!canBeAlike(tier, n)) {
            return NONE;
        }
        return grids.search(recipe.tierColumns[tier], recipe.tierRows[tier], n);
    }

    private boolean canBeAlike(int tier, int n) {
        return recipe.isTier(tier) && n >= 1 && n <= MOST_CELLS;
    }

    public int most(int tier, int n) {
        if (!recipe.isTier(tier) || n < 1 || n > MOST_WANTED) {
            return NONE;
        }
        int high = recipe.tierHigh[tier];
        int cells = recipe.tierColumns[tier] * recipe.tierRows[tier];
        for (int pieces = cells; pieces >= 1; pieces--) {
            boolean enough = cells / pieces * high >= n;
            if (enough && grids.search(recipe.tierColumns[tier], recipe.tierRows[tier], pieces) > 0) {
                return pieces;
            }
        }
        return NONE;
    }

    // ---- looks at the table ----

    public int where(int tier, int column, int row) {
        for (int piece = 0; piece < board.count; piece++) {
            if (board.slabs[piece].holds(tier, column, row)) {
                return piece;
            }
        }
        return NONE;
    }

    public int left() {
        int area = 0;
        for (int piece = 0; piece < board.count; piece++) {
            if (board.isFree(piece)) {
                area += recipe.areaOf(board.slabs[piece]);
            }
        }
        return area;
    }

    public int iced(int n) {
        if (n < 0 || n > MOST_ICING) {
            return NONE;
        }
        int set = 0;
        for (int piece = 0; piece < board.count; piece++) {
            if (board.isFree(piece) && recipe.icingOf(board.slabs[piece]) >= n) {
                set |= 1 << piece;
            }
        }
        return set;
    }

    public int come(int set, int part) {
        if (set < 0 || set >= 1 << recipe.guests || Integer.bitCount(set) > 4 || part < 0 || part > 1) {
            return NONE;
        }
        int upper = 1;
        int lower = 1;
        for (int guest = 0; guest < recipe.guests; guest++) {
            if ((set >> guest & 1) == 1) {
                upper *= recipe.comes[guest];
                lower *= 100;
            }
        }
        int common = commonDivisor(upper, lower);
        if (common == 0) {
            return NONE;
        }
        return part == 0 ? upper / common : lower / common;
    }

    private static int commonDivisor(int a, int b) {
        int kept = a;
        int rest = b;
        // Euclid's steps on two ints are fewer than 64.
        for (int i = 0; i < 64 && rest != 0; i++) {
            int swap = kept % rest;
            kept = rest;
            rest = swap;
        }
        return kept;
    }

    // ---- how a cake was cut long ago ----

    public int sized(int cells, boolean is) {
        if (cells < 1 || cells > MOST_CELLS) {
            return NONE;
        }
        return lore.tell(Lore.CELLS, cells, is);
    }

    public int rimmed(int icing, boolean is) {
        if (icing < 0 || icing > MOST_ICING) {
            return NONE;
        }
        return lore.tell(Lore.ICING, icing, is);
    }

    public boolean untell(int seen) {
        return lore.takeAway(seen);
    }

    public int later(int by) {
        return lore.goOn(by);
    }

    public int fits(int k) {
        return lore.gather(k);
    }

    public int sure(int what, int k) {
        if (what < 0 || what > 1 || lore.gather(k) == 0) {
            return NONE;
        }
        return lore.sameInAll(what == 0 ? lore.pairBeside : lore.pairBehind);
    }

    public int ask(int what, int k) {
        if (what < 0 || what > 1 || lore.gather(k) == 0) {
            return NONE;
        }
        lore.findQuestion();
        return what == 0 ? lore.askIcing : lore.askLeaves;
    }

    // ---- images ----

    public int image(int box) {
        if (box < 0 || box >= boxes.length) {
            return NONE;
        }
        boxes[box].takeFrom(board);
        boxes[box].kept = true;
        return board.count;
    }

    public int restore(int box) {
        if (box < 0 || box >= boxes.length || !boxes[box].kept) {
            return NONE;
        }
        board.takeFrom(boxes[box]);
        acts.forget();
        return board.count;
    }

    public int about(int what) {
        switch (what) {
            case 0:
                return recipe.tiers;
            case 1:
                return recipe.guests;
            case 2:
                return board.count;
            case 3:
                return board.minute;
            case 4:
                return board.seed;
            case 5:
                return board.brokenSet();
            case 6:
                return acts.done;
            case 7:
                return acts.noted - acts.done;
            case 8:
                return lore.count;
            case 9:
                return lore.time;
            case 10:
                return tapeLength;
            case 11:
                return recipe.worth.units + recipe.slip.units;
            case 12:
                return lyingCount;
            default:
                return NONE;
        }
    }

    /** A told e, as steps on a stack of numbers. */
    private static final class Formula {
        static final int NUMBER = 0;
        // 1 to 6 are places in the row of facts as well.
        static final int AREA = 1;
        static final int ICING = 2;
        static final int SWEET = 3;
        static final int BROKEN = 4;
        static final int LONG = 5;
        static final int MINUTE = 6;
        static final int FACTS = 7;
        static final int NOT = 7;
        static final int OR = 8;
        static final int AND = 9;
        static final int LESS = 10;
        static final int MORE = 11;
        static final int SAME = 12;
        static final int PLUS = 13;
        static final int MINUS = 14;
        static final int TIMES = 15;
        static final int OVER = 16;
        static final int REST = 17;
        static final int MOST_UNITS = 30;
        // 30 units, 29 steps between them, and 7 nots ahead of each at most.
        private static final int MOST_STEPS = 272;
        private static final int STEP_BITS = 5;
        private static final int STEP_MASK = 31;

        private final int[] code;
        private final int[] stack;
        private int steps;
        int units;
        boolean told;

        Formula(int untoldStep) {
            code = new int[MOST_STEPS];
            stack = new int[MOST_UNITS + 2];
            clear(untoldStep);
        }

        /** What comes of an untold formula is that one step. */
        void clear(int untoldStep) {
            steps = 0;
            units = 0;
            told = false;
            add(untoldStep, 0);
        }

        void begin() {
            steps = 0;
            told = true;
        }

        void takeFrom(Formula other) {
            for (int i = 0; i < other.steps; i++) {
                code[i] = other.code[i];
            }
            steps = other.steps;
            units = other.units;
            told = other.told;
        }

        boolean countUnit() {
            if (units >= MOST_UNITS) {
                return false;
            }
            units++;
            return true;
        }

        void add(int step, int operand) {
            if (steps < code.length) {
                code[steps] = operand << STEP_BITS | step;
                steps++;
            }
        }

        int outcome(int[] facts) {
            int depth = 0;
            for (int i = 0; i < steps; i++) {
                int step = code[i] & STEP_MASK;
                if (step < FACTS) {
                    if (depth < stack.length && step < facts.length) {
                        stack[depth] = step == NUMBER ? code[i] >> STEP_BITS : facts[step];
                        depth++;
                    }
                } else if (step == NOT) {
                    if (depth > 0) {
                        stack[depth - 1] = truth(stack[depth - 1] == 0);
                    }
                } else if (depth > 1) {
                    depth--;
                    stack[depth - 1] = joined(step, stack[depth - 1], stack[depth]);
                }
            }
            return depth > 0 ? stack[0] : 0;
        }

        private static int joined(int step, int a, int b) {
            switch (step) {
                case OR:
                    return truth(a != 0 || b != 0);
                case AND:
                    return truth(a != 0 && b != 0);
                case LESS:
                    return truth(a < b);
                case MORE:
                    return truth(a > b);
                case SAME:
                    return truth(a == b);
                case PLUS:
                    return a + b;
                case MINUS:
                    return a - b;
                case TIMES:
                    return a * b;
                case OVER:
                    return b == 0 ? 0 : a / b;
                case REST:
                    return b == 0 ? 0 : a % b;
                default:
                    return 0;
            }
        }

        private static int truth(boolean is) {
            return is ? 1 : 0;
        }
    }

    /** A cake as it is told. */
    private static final class Recipe {
        int tiers;
        final long[] tierNames;
        final int[] tierColumns;
        final int[] tierRows;
        final int[] tierHigh;
        int guests;
        final long[] guestNames;
        final int[] wants;
        final int[] sweet;
        final int[] comes;
        final Formula worth;
        final Formula slip;
        int pace;
        boolean paceTold;
        int draw;
        boolean drawTold;

        Recipe() {
            tierNames = new long[MOST_TIERS];
            tierColumns = new int[MOST_TIERS];
            tierRows = new int[MOST_TIERS];
            tierHigh = new int[MOST_TIERS];
            guestNames = new long[MOST_GUESTS];
            wants = new int[MOST_GUESTS];
            sweet = new int[MOST_GUESTS];
            comes = new int[MOST_GUESTS];
            worth = new Formula(Formula.AREA);
            slip = new Formula(Formula.NUMBER);
            pace = 1;
        }

        void clear() {
            tiers = 0;
            guests = 0;
            worth.clear(Formula.AREA);
            slip.clear(Formula.NUMBER);
            pace = 1;
            paceTold = false;
            draw = 0;
            drawTold = false;
        }

        void takeFrom(Recipe other) {
            tiers = other.tiers;
            for (int i = 0; i < MOST_TIERS; i++) {
                tierColumns[i] = other.tierColumns[i];
                tierRows[i] = other.tierRows[i];
                tierHigh[i] = other.tierHigh[i];
            }
            guests = other.guests;
            for (int i = 0; i < MOST_GUESTS; i++) {
                wants[i] = other.wants[i];
                sweet[i] = other.sweet[i];
                comes[i] = other.comes[i];
            }
            worth.takeFrom(other.worth);
            slip.takeFrom(other.slip);
            pace = other.pace;
            draw = other.draw;
        }

        void addTier(int columns, int rows, int high) {
            if (tiers < MOST_TIERS) {
                tierColumns[tiers] = columns;
                tierRows[tiers] = rows;
                tierHigh[tiers] = high;
                tiers++;
            }
        }

        void addGuest(int wanted, int sweetTooth, int odds) {
            if (guests < MOST_GUESTS) {
                wants[guests] = wanted;
                sweet[guests] = sweetTooth;
                comes[guests] = odds;
                guests++;
            }
        }

        boolean isTier(int tier) {
            return tier >= 0 && tier < tiers;
        }

        boolean isGuest(int guest) {
            return guest >= 0 && guest < guests;
        }

        int areaOf(Slab slab) {
            return isTier(slab.tier) ? slab.columns * slab.rows * tierHigh[slab.tier] : 0;
        }

        int icingOf(Slab slab) {
            if (!isTier(slab.tier)) {
                return 0;
            }
            int icing = slab.column == 0 ? slab.rows : 0;
            if (slab.column + slab.columns == tierColumns[slab.tier]) {
                icing += slab.rows;
            }
            if (slab.row == 0) {
                icing += slab.columns;
            }
            if (slab.row + slab.rows == tierRows[slab.tier]) {
                icing += slab.columns;
            }
            return icing;
        }
    }

    /** Reads the tape into a draft; the first fault met is the first by its place. */
    private static final class Reader {
        private static final String KEYWORDS =
                "tier by high guest wants sweet comes worth slip pace draw or and not area icing broken long minute ";
        private static final int TIER = 0;
        private static final int BY = 1;
        private static final int HIGH = 2;
        private static final int GUEST = 3;
        private static final int WANTS = 4;
        private static final int SWEET = 5;
        private static final int COMES = 6;
        private static final int WORTH = 7;
        private static final int SLIP = 8;
        private static final int PACE = 9;
        private static final int DRAW = 10;
        private static final int OR = 11;
        private static final int AND = 12;
        private static final int NOT = 13;
        private static final int AREA = 14;
        private static final int ICING = 15;
        private static final int BROKEN = 16;
        private static final int LONG = 17;
        private static final int MINUTE = 18;
        private static final int KEYWORD_COUNT = 19;

        private static final int END = 0;
        private static final int WORD = 1;
        private static final int NUMBER = 2;
        private static final int SIGN = 3;
        private static final int BAD = 4;

        private static final int NO_TOKEN = 1;
        private static final int MISPLACED = 2;
        private static final int NAME_AGAIN = 3;
        private static final int WRONG_NUMBER = 4;

        private static final int LETTERS_A_WORD = 8;
        private static final int DIGITS_A_NUMBER = 4;
        private static final int MOST_AROUND = 6;

        private final byte[] text;
        private final Recipe draft;
        private final long[] keywords;
        private int length;
        private int at;
        private int kind;
        private int start;
        private int number;
        private long word;
        private int keyword;
        private int sign;
        int faultKind;
        int faultPlace;

        Reader(byte[] text, Recipe draft) {
            this.text = text;
            this.draft = draft;
            keywords = new long[KEYWORD_COUNT];
            int n = 0;
            for (int i = 0; i < KEYWORDS.length() && n < KEYWORD_COUNT; i++) {
                int letter = KEYWORDS.charAt(i);
                if (letter == ' ') {
                    n++;
                } else {
                    keywords[n] = withLetter(keywords[n], letter);
                }
            }
            faultPlace = NONE;
        }

        /** Eight letters fit a long, so words are kept and compared as numbers. */
        private static long withLetter(long word, int letter) {
            return word * 32 + (letter - 'a' + 1);
        }

        boolean readAll(int textLength) {
            length = Math.min(textLength, text.length);
            at = 0;
            faultKind = 0;
            faultPlace = NONE;
            draft.clear();
            advance();
            for (int lines = 0; lines < MOST_BYTES && faultKind == 0 && kind != END; lines++) {
                line();
            }
            return faultKind == 0;
        }

        private void line() {
            switch (kind == WORD ? keyword : NONE) {
                case TIER:
                    tierLine();
                    break;
                case GUEST:
                    guestLine();
                    break;
                case WORTH:
                    formulaLine(draft.worth);
                    break;
                case SLIP:
                    formulaLine(draft.slip);
                    break;
                case PACE:
                    paceLine();
                    break;
                case DRAW:
                    drawLine();
                    break;
                default:
                    refuse();
            }
        }

        private void tierLine() {
            if (draft.tiers >= MOST_TIERS) {
                refuse();
                return;
            }
            advance();
            newName(draft.tierNames, draft.tiers);
            int columns = numberWithin(1, MOST_SIDE);
            expectKeyword(BY);
            int rows = numberWithin(1, MOST_SIDE);
            expectKeyword(HIGH);
            int high = numberWithin(1, 9);
            expectSign(';');
            draft.addTier(columns, rows, high);
        }

        private void guestLine() {
            if (draft.guests >= MOST_GUESTS) {
                refuse();
                return;
            }
            advance();
            newName(draft.guestNames, draft.guests);
            expectKeyword(WANTS);
            int wanted = numberWithin(0, MOST_WANTED);
            int sweetTooth = 0;
            if (isKeyword(SWEET)) {
                advance();
                sweetTooth = numberWithin(0, 9);
            }
            int odds = 100;
            if (isKeyword(COMES)) {
                advance();
                odds = numberWithin(0, 100);
            }
            expectSign(';');
            draft.addGuest(wanted, sweetTooth, odds);
        }

        private void formulaLine(Formula formula) {
            if (formula.told) {
                refuse();
                return;
            }
            advance();
            formula.begin();
            either(formula, 0);
            expectSign(';');
        }

        private void paceLine() {
            if (draft.paceTold) {
                refuse();
                return;
            }
            advance();
            draft.paceTold = true;
            draft.pace = numberWithin(0, 60);
            expectSign(';');
        }

        private void drawLine() {
            if (draft.drawTold) {
                refuse();
                return;
            }
            advance();
            draft.drawTold = true;
            draft.draw = numberWithin(0, 999);
            expectSign(';');
        }

        private void either(Formula formula, int around) {
            both(formula, around);
            for (int i = 0; i < MOST_BYTES && isKeyword(OR); i++) {
                advance();
                both(formula, around);
                formula.add(Formula.OR, 0);
            }
        }

        private void both(Formula formula, int around) {
            one(formula, around);
            for (int i = 0; i < MOST_BYTES && isKeyword(AND); i++) {
                advance();
                one(formula, around);
                formula.add(Formula.AND, 0);
            }
        }

        private void one(Formula formula, int around) {
            if (!isKeyword(NOT)) {
                relation(formula, around);
                return;
            }
            if (around > MOST_AROUND) {
                refuse();
                return;
            }
            advance();
            one(formula, around + 1);
            formula.add(Formula.NOT, 0);
        }

        private void relation(Formula formula, int around) {
            sum(formula, around);
            int step = isSign('<') ? Formula.LESS
                    : isSign('>') ? Formula.MORE
                    : isSign('=') ? Formula.SAME
                    : NONE;
            if (step != NONE) {
                advance();
                sum(formula, around);
                formula.add(step, 0);
            }
        }

        private void sum(Formula formula, int around) {
            term(formula, around);
            for (int i = 0; i < MOST_BYTES && (isSign('+') || isSign('-')); i++) {
                int step = isSign('+') ? Formula.PLUS : Formula.MINUS;
                advance();
                term(formula, around);
                formula.add(step, 0);
            }
        }

        private void term(Formula formula, int around) {
            unit(formula, around);
            for (int i = 0; i < MOST_BYTES && (isSign('*') || isSign('/') || isSign('%')); i++) {
                int step = isSign('*') ? Formula.TIMES : isSign('/') ? Formula.OVER : Formula.REST;
                advance();
                unit(formula, around);
                formula.add(step, 0);
            }
        }

        private void unit(Formula formula, int around) {
            boolean opens = isSign('(');
            int step = plainUnit();
            boolean canStand = opens ? around <= MOST_AROUND : step != NONE;
            if (faultKind != 0 || !canStand || !formula.countUnit()) {
                refuse();
                return;
            }
            if (!opens) {
                formula.add(step, step == Formula.NUMBER ? number : 0);
            }
            advance();
            if (opens) {
                either(formula, around + 1);
                expectSign(')');
            }
        }

        private int plainUnit() {
            if (kind == NUMBER) {
                return Formula.NUMBER;
            }
            switch (kind == WORD ? keyword : NONE) {
                case AREA:
                    return Formula.AREA;
                case ICING:
                    return Formula.ICING;
                case SWEET:
                    return Formula.SWEET;
                case BROKEN:
                    return Formula.BROKEN;
                case LONG:
                    return Formula.LONG;
                case MINUTE:
                    return Formula.MINUTE;
                default:
                    return NONE;
            }
        }

        private void newName(long[] names, int count) {
            if (faultKind != 0 || kind != WORD || keyword != NONE || count >= names.length) {
                refuse();
                return;
            }
            for (int i = 0; i < count; i++) {
                if (names[i] == word) {
                    keepFault(NAME_AGAIN);
                    return;
                }
            }
            names[count] = word;
            advance();
        }

        private int numberWithin(int least, int most) {
            if (faultKind != 0 || kind != NUMBER) {
                refuse();
                return least;
            }
            if (number < least || number > most) {
                keepFault(WRONG_NUMBER);
                return least;
            }
            int told = number;
            advance();
            return told;
        }

        private void expectKeyword(int wanted) {
            if (isKeyword(wanted)) {
                advance();
            } else {
                refuse();
            }
        }

        private void expectSign(int wanted) {
            if (isSign(wanted)) {
                advance();
            } else {
                refuse();
            }
        }

        /** Behind a fault nothing is recognised, so that all readers come to their ends. */
        private boolean isKeyword(int wanted) {
            return faultKind == 0 && kind == WORD && keyword == wanted;
        }

        private boolean isSign(int wanted) {
            return faultKind == 0 && kind == SIGN && sign == wanted;
        }

        private void refuse() {
            keepFault(kind == BAD ? NO_TOKEN : MISPLACED);
        }

        private void keepFault(int fault) {
            if (faultKind == 0) {
                faultKind = fault;
                faultPlace = start;
            }
        }

        private int signAt(int place) {
            return place >= 0 && place < length && place < text.length ? text[place] & 255 : 0;
        }

        private static boolean isLetter(int sign) {
            return sign >= 'a' && sign <= 'z';
        }

        private static boolean isDigit(int sign) {
            return sign >= '0' && sign <= '9';
        }

        private static boolean isBlank(int sign) {
            return sign == 32 || sign == 10;
        }

        private static boolean isMark(int sign) {
            return sign == ';' || sign >= '(' && sign <= '+' || sign == '-' || sign == '/'
                    || sign >= '<' && sign <= '>' || sign == '%';
        }

        private void advance() {
            for (int i = 0; i < MOST_BYTES && at < length && isBlank(signAt(at)); i++) {
                at++;
            }
            start = at;
            if (at >= length) {
                kind = END;
                return;
            }
            sign = signAt(at);
            if (isLetter(sign)) {
                scanWord();
            } else if (isDigit(sign)) {
                scanNumber();
            } else {
                kind = isMark(sign) ? SIGN : BAD;
                at++;
            }
        }

        private void scanWord() {
            word = 0;
            for (int i = 0; i < MOST_BYTES && isLetter(signAt(at)); i++) {
                word = withLetter(word, signAt(at));
                at++;
            }
            kind = at - start > LETTERS_A_WORD ? BAD : WORD;
            keyword = NONE;
            for (int i = 0; i < KEYWORD_COUNT; i++) {
                if (keywords[i] == word) {
                    keyword = i;
                }
            }
        }

        private void scanNumber() {
            number = 0;
            for (int i = 0; i < MOST_BYTES && isDigit(signAt(at)); i++) {
                number = number * 10 + (signAt(at) - '0');
                at++;
            }
            kind = at - start > DIGITS_A_NUMBER || isLetter(signAt(at)) ? BAD : NUMBER;
        }
    }

    /** A piece: rows of cells of a tier. */
    private static final class Slab {
        int tier;
        int column;
        int row;
        int columns;
        int rows;
        boolean broken;
        int plate;

        Slab() {
            plate = NONE;
        }

        void layWhole(int ofTier, int allColumns, int allRows) {
            tier = ofTier;
            column = 0;
            row = 0;
            columns = allColumns;
            rows = allRows;
            broken = false;
            plate = NONE;
        }

        void takeFrom(Slab other) {
            tier = other.tier;
            column = other.column;
            row = other.row;
            columns = other.columns;
            rows = other.rows;
            broken = other.broken;
            plate = other.plate;
        }

        int extent(int way) {
            return way == COLUMN_WAY ? columns : rows;
        }

        /** How many cells a cut that way goes along. */
        int along(int way) {
            return way == COLUMN_WAY ? rows : columns;
        }

        void keepAhead(int way, int behind) {
            if (way == COLUMN_WAY) {
                columns = behind;
            } else {
                rows = behind;
            }
        }

        void keepBehind(int way, int behind) {
            if (way == COLUMN_WAY) {
                column += behind;
                columns -= behind;
            } else {
                row += behind;
                rows -= behind;
            }
        }

        void growBy(int way, int more) {
            if (way == COLUMN_WAY) {
                columns += more;
            } else {
                rows += more;
            }
        }

        boolean holds(int ofTier, int cellColumn, int cellRow) {
            return ofTier == tier && cellColumn >= column && cellColumn < column + columns
                    && cellRow >= row && cellRow < row + rows;
        }
    }

    /** Pieces and plates as they are, or as an image kept them. */
    private static final class Board {
        final Slab[] slabs;
        final int[] held;
        int count;
        int minute;
        int seed;
        boolean kept;

        Board() {
            slabs = new Slab[MOST_PIECES];
            for (int i = 0; i < MOST_PIECES; i++) {
                slabs[i] = new Slab();
            }
            held = new int[MOST_GUESTS];
            for (int i = 0; i < MOST_GUESTS; i++) {
                held[i] = NONE;
            }
        }

        void lay(Recipe recipe) {
            for (int i = 0; i < recipe.tiers; i++) {
                slabs[i].layWhole(i, recipe.tierColumns[i], recipe.tierRows[i]);
            }
            count = recipe.tiers;
            for (int i = 0; i < MOST_GUESTS; i++) {
                held[i] = NONE;
            }
            minute = 0;
            seed = recipe.draw;
        }

        void takeFrom(Board other) {
            for (int i = 0; i < other.count; i++) {
                slabs[i].takeFrom(other.slabs[i]);
            }
            for (int i = 0; i < MOST_GUESTS; i++) {
                held[i] = other.held[i];
            }
            count = other.count;
            minute = other.minute;
            seed = other.seed;
        }

        boolean isPiece(int piece) {
            return piece >= 0 && piece < count;
        }

        boolean isFree(int piece) {
            return isPiece(piece) && slabs[piece].plate == NONE;
        }

        /** A cut needs a number for the new piece, so with all of them given out no piece can be cut. */
        boolean isCuttable(int piece) {
            return isFree(piece) && count < MOST_PIECES;
        }

        boolean canSplit(int piece, int way, int behind) {
            return isCuttable(piece) && (way == COLUMN_WAY || way == ROW_WAY)
                    && behind >= 1 && behind < slabs[piece].extent(way);
        }

        void split(int piece, int way, int behind, int slips, int pace) {
            if (!canSplit(piece, way, behind)) {
                return;
            }
            Slab ahead = slabs[piece];
            Slab fresh = slabs[count];
            fresh.takeFrom(ahead);
            fresh.keepBehind(way, behind);
            ahead.keepAhead(way, behind);
            count++;
            seed = (seed * 137 + 71) % 1000;
            if (seed % 100 < slips) {
                fresh.broken = true;
            }
            minute += pace;
        }

        /** The latest piece goes back behind the one that it was cut from. */
        void rejoin(int piece, int way) {
            if (isPiece(piece) && piece < count - 1) {
                count--;
                slabs[piece].growBy(way, slabs[count].extent(way));
            }
        }

        void put(int piece, int guest) {
            if (isPiece(piece) && guest >= 0 && guest < MOST_GUESTS) {
                slabs[piece].plate = guest;
                held[guest] = piece;
            }
        }

        void lift(int piece, int guest) {
            if (isPiece(piece) && guest >= 0 && guest < MOST_GUESTS) {
                slabs[piece].plate = NONE;
                held[guest] = NONE;
            }
        }

        void trade(int guest, int other) {
            if (guest < 0 || guest >= MOST_GUESTS || other < 0 || other >= MOST_GUESTS) {
                return;
            }
            int mine = held[guest];
            put(held[other], guest);
            put(mine, other);
        }

        int platesFilled() {
            int filled = 0;
            for (int i = 0; i < MOST_GUESTS; i++) {
                if (held[i] != NONE) {
                    filled++;
                }
            }
            return filled;
        }

        int brokenSet() {
            int set = 0;
            for (int i = 0; i < count; i++) {
                if (slabs[i].broken) {
                    set |= 1 << i;
                }
            }
            return set;
        }
    }

    /** What pieces are worth to whom, how the knife slips, and who envies whom. */
    private static final class Taste {
        private final Recipe recipe;
        private final Board board;
        private final int[] facts;
        // What the piece of one guest is worth to another, while a calm is sought.
        private final int[] regard;
        int calmFirst;
        int calmOther;
        int calmLeaves;

        Taste(Recipe recipe, Board board) {
            this.recipe = recipe;
            this.board = board;
            facts = new int[Formula.FACTS];
            regard = new int[MOST_GUESTS * MOST_GUESTS];
        }

        private void measure(Slab slab) {
            facts[Formula.AREA] = recipe.areaOf(slab);
            facts[Formula.ICING] = recipe.icingOf(slab);
            facts[Formula.SWEET] = 0;
            facts[Formula.BROKEN] = slab.broken ? 1 : 0;
            facts[Formula.LONG] = 0;
            facts[Formula.MINUTE] = board.minute;
        }

        int ofSlab(int guest, Slab slab) {
            measure(slab);
            facts[Formula.SWEET] = recipe.isGuest(guest) ? recipe.sweet[guest] : 0;
            return recipe.worth.outcome(facts);
        }

        int ofPiece(int guest, int piece, int otherwise) {
            return board.isPiece(piece) ? ofSlab(guest, board.slabs[piece]) : otherwise;
        }

        int slipOf(int piece, int way) {
            if (!board.isPiece(piece)) {
                return 0;
            }
            measure(board.slabs[piece]);
            facts[Formula.LONG] = board.slabs[piece].along(way);
            return recipe.slip.outcome(facts);
        }

        int enviedBy(int guest) {
            if (!recipe.isGuest(guest)) {
                return 0;
            }
            int own = ofPiece(guest, board.held[guest], 0);
            int set = 0;
            for (int other = 0; other < recipe.guests; other++) {
                boolean has = other != guest && board.held[other] != NONE;
                if (has && ofPiece(guest, board.held[other], 0) > own) {
                    set |= 1 << other;
                }
            }
            return set;
        }

        boolean findCalm() {
            for (int guest = 0; guest < recipe.guests; guest++) {
                for (int other = 0; other < recipe.guests; other++) {
                    regard[guest * MOST_GUESTS + other] = ofPiece(guest, board.held[other], 0);
                }
            }
            calmLeaves = enviesAfter(0, 0);
            boolean found = false;
            for (int first = 0; first < recipe.guests; first++) {
                for (int other = first + 1; other < recipe.guests; other++) {
                    if (board.held[first] != NONE && board.held[other] != NONE) {
                        int leaves = enviesAfter(first, other);
                        if (leaves < calmLeaves) {
                            found = true;
                            calmFirst = first;
                            calmOther = other;
                            calmLeaves = leaves;
                        }
                    }
                }
            }
            return found;
        }

        private int enviesAfter(int first, int other) {
            int envies = 0;
            for (int guest = 0; guest < recipe.guests; guest++) {
                int line = guest * MOST_GUESTS;
                int own = regard[line + exchanged(guest, first, other)];
                for (int seen = 0; seen < recipe.guests; seen++) {
                    boolean has = seen != guest && board.held[seen] != NONE;
                    if (has && regard[line + exchanged(seen, first, other)] > own) {
                        envies++;
                    }
                }
            }
            return envies;
        }

        private static int exchanged(int guest, int first, int other) {
            return guest == first ? other : guest == other ? first : guest;
        }
    }

    /** Acts done, and those taken back that can be done again. */
    private static final class Acts {
        static final int SPLIT = 0;
        static final int PUT = 1;
        static final int LIFT = 2;
        static final int TRADE = 3;

        private final Recipe recipe;
        private final Board board;
        private final Taste taste;
        private final int[] kinds;
        private final int[] firsts;
        private final int[] seconds;
        private final int[] thirds;
        private final int[] seeds;
        private final int[] minutes;
        int done;
        int noted;

        Acts(Recipe recipe, Board board, Taste taste) {
            this.recipe = recipe;
            this.board = board;
            this.taste = taste;
            kinds = new int[MOST_ACTS];
            firsts = new int[MOST_ACTS];
            seconds = new int[MOST_ACTS];
            thirds = new int[MOST_ACTS];
            seeds = new int[MOST_ACTS];
            minutes = new int[MOST_ACTS];
        }

        void forget() {
            done = 0;
            noted = 0;
        }

        void perform(int kind, int first, int second, int third) {
            if (done >= MOST_ACTS) {
                dropOldest();
            }
            kinds[done] = kind;
            firsts[done] = first;
            seconds[done] = second;
            thirds[done] = third;
            seeds[done] = board.seed;
            minutes[done] = board.minute;
            carryOut(done);
            done++;
            noted = done;
        }

        private void dropOldest() {
            for (int i = 1; i < MOST_ACTS; i++) {
                kinds[i - 1] = kinds[i];
                firsts[i - 1] = firsts[i];
                seconds[i - 1] = seconds[i];
                thirds[i - 1] = thirds[i];
                seeds[i - 1] = seeds[i];
                minutes[i - 1] = minutes[i];
            }
            done = MOST_ACTS - 1;
        }

        boolean takeBack() {
            if (done <= 0) {
                return false;
            }
            done--;
            reverse(done);
            return true;
        }

        boolean doAgain() {
            if (done >= noted || done >= MOST_ACTS) {
                return false;
            }
            carryOut(done);
            done++;
            return true;
        }

        private void carryOut(int i) {
            switch (kinds[i]) {
                case SPLIT:
                    board.split(firsts[i], seconds[i], thirds[i], taste.slipOf(firsts[i], seconds[i]), recipe.pace);
                    break;
                case PUT:
                    board.put(firsts[i], seconds[i]);
                    break;
                case LIFT:
                    board.lift(firsts[i], seconds[i]);
                    break;
                default:
                    board.trade(firsts[i], seconds[i]);
            }
        }

        private void reverse(int i) {
            switch (kinds[i]) {
                case SPLIT:
                    board.rejoin(firsts[i], seconds[i]);
                    board.seed = seeds[i];
                    board.minute = minutes[i];
                    break;
                case PUT:
                    board.lift(firsts[i], seconds[i]);
                    break;
                case LIFT:
                    board.put(firsts[i], seconds[i]);
                    break;
                default:
                    board.trade(firsts[i], seconds[i]);
            }
        }
    }

    /** Who can be served, and by which cut most. */
    private static final class Serving {
        private final Recipe recipe;
        private final Board board;
        // Wants of those who wait, the greatest first, and how many free pieces are enough for each.
        private final int[] wanted;
        private final int[] enough;
        private int waiting;
        int cutPiece;
        int cutWay;
        int cutBehind;
        int cutServes;

        Serving(Recipe recipe, Board board) {
            this.recipe = recipe;
            this.board = board;
            wanted = new int[MOST_GUESTS];
            enough = new int[MOST_GUESTS];
        }

        int feeders(int guest) {
            int set = 0;
            if (recipe.isGuest(guest)) {
                for (int piece = 0; piece < board.count; piece++) {
                    if (board.isFree(piece) && recipe.areaOf(board.slabs[piece]) >= recipe.wants[guest]) {
                        set |= 1 << piece;
                    }
                }
            }
            return set;
        }

        int servedIf(int more) {
            prepare(more, NONE);
            return matched();
        }

        private void prepare(int more, int without) {
            waiting = 0;
            for (int guest = 0; guest < recipe.guests; guest++) {
                if (guest != without && board.held[guest] == NONE) {
                    addWanted(Math.max(0, recipe.wants[guest] + more));
                }
            }
            for (int i = 0; i < waiting; i++) {
                enough[i] = 0;
            }
            for (int piece = 0; piece < board.count; piece++) {
                if (board.isFree(piece)) {
                    count(recipe.areaOf(board.slabs[piece]), 1);
                }
            }
        }

        private void addWanted(int want) {
            if (waiting >= MOST_GUESTS) {
                return;
            }
            int place = waiting;
            for (; place > 0 && wanted[place - 1] < want; place--) {
                wanted[place] = wanted[place - 1];
            }
            wanted[place] = want;
            waiting++;
        }

        private void count(int area, int by) {
            for (int i = 0; i < waiting; i++) {
                if (area >= wanted[i]) {
                    enough[i] += by;
                }
            }
        }

        /** Whatever feeds one who wants more feeds one who wants less, so none need ever be given another piece. */
        private int matched() {
            int all = 0;
            for (int i = 0; i < waiting; i++) {
                if (enough[i] > all) {
                    all++;
                }
            }
            return all;
        }

        boolean findCut() {
            prepare(0, NONE);
            cutPiece = NONE;
            for (int piece = 0; piece < board.count; piece++) {
                if (board.isCuttable(piece)) {
                    int area = recipe.areaOf(board.slabs[piece]);
                    count(area, -1);
                    tryCuts(piece, COLUMN_WAY, area);
                    tryCuts(piece, ROW_WAY, area);
                    count(area, 1);
                }
            }
            return cutPiece != NONE;
        }

        private void tryCuts(int piece, int way, int area) {
            int extent = board.slabs[piece].extent(way);
            if (extent < 1) {
                return;
            }
            int each = area / extent;
            for (int behind = 1; behind < extent; behind++) {
                count(each * behind, 1);
                count(area - each * behind, 1);
                int serves = matched();
                count(each * behind, -1);
                count(area - each * behind, -1);
                if (cutPiece == NONE || serves > cutServes) {
                    cutPiece = piece;
                    cutWay = way;
                    cutBehind = behind;
                    cutServes = serves;
                }
            }
        }

        int roomOf(int guest) {
            if (!recipe.isGuest(guest)) {
                return NONE;
            }
            int all = servedIf(0);
            int want = recipe.wants[guest];
            prepare(0, guest);
            int found = NONE;
            for (int piece = 0; piece < board.count; piece++) {
                int area = recipe.areaOf(board.slabs[piece]);
                if (board.isFree(piece) && area - want > found) {
                    count(area, -1);
                    if (matched() + 1 == all) {
                        found = area - want;
                    }
                    count(area, 1);
                }
            }
            return found;
        }
    }

    /** One who cuts and one who picks; guests who pick in turn. */
    private static final class Picking {
        private static final int MOST_WORTH = 2147483647;

        private final Recipe recipe;
        private final Board board;
        private final Taste taste;
        private final Slab ahead;
        private final Slab behind;
        private final int[] worths;
        private final int[] trial;
        private int waitingSet;
        private int waiting;
        private int freeSet;
        private boolean orderFound;
        int orderLeast;
        int halfWay;
        int halfBehind;
        int halfPicked;
        int halfWorth;

        Picking(Recipe recipe, Board board, Taste taste) {
            this.recipe = recipe;
            this.board = board;
            this.taste = taste;
            ahead = new Slab();
            behind = new Slab();
            worths = new int[MOST_GUESTS * MOST_PIECES];
            trial = new int[MOST_GUESTS];
        }

        boolean findHalves(int piece, int guest, int other) {
            if (!board.isCuttable(piece)) {
                return false;
            }
            Slab whole = board.slabs[piece];
            boolean found = false;
            for (int way = COLUMN_WAY; way <= ROW_WAY; way++) {
                for (int at = 1; at < whole.extent(way); at++) {
                    ahead.takeFrom(whole);
                    ahead.keepAhead(way, at);
                    behind.takeFrom(whole);
                    behind.keepBehind(way, at);
                    boolean picksBehind = taste.ofSlab(other, behind) > taste.ofSlab(other, ahead);
                    int leaves = taste.ofSlab(guest, picksBehind ? ahead : behind);
                    if (!found || leaves > halfWorth) {
                        found = true;
                        halfWay = way;
                        halfBehind = at;
                        halfPicked = picksBehind ? 1 : 0;
                        halfWorth = leaves;
                    }
                }
            }
            return found;
        }

        /** All worths at first, as each is looked at in many orders. */
        private void prepare() {
            waitingSet = 0;
            waiting = 0;
            for (int guest = 0; guest < recipe.guests; guest++) {
                if (board.held[guest] == NONE) {
                    waitingSet |= 1 << guest;
                    waiting++;
                    for (int piece = 0; piece < board.count; piece++) {
                        worths[guest * MOST_PIECES + piece] = taste.ofPiece(guest, piece, 0);
                    }
                }
            }
            freeSet = 0;
            for (int piece = 0; piece < board.count; piece++) {
                if (board.isFree(piece)) {
                    freeSet |= 1 << piece;
                }
            }
        }

        private int pickOf(int guest, int free) {
            int found = NONE;
            int most = 0;
            for (int piece = 0; piece < board.count; piece++) {
                if ((free >> piece & 1) == 1) {
                    int worth = worths[guest * MOST_PIECES + piece];
                    if (found == NONE || worth > most) {
                        found = piece;
                        most = worth;
                    }
                }
            }
            return found;
        }

        private static int without(int free, int piece) {
            return piece == NONE ? free : free & ~(1 << piece);
        }

        int pickByNumber(int[] picked) {
            prepare();
            int free = freeSet;
            for (int guest = 0; guest < recipe.guests && guest < picked.length; guest++) {
                boolean waits = (waitingSet >> guest & 1) == 1;
                picked[guest] = waits ? pickOf(guest, free) : NONE;
                free = without(free, picked[guest]);
            }
            return Integer.bitCount(freeSet & ~free);
        }

        /** The best order comes into the row; its length. */
        int findOrder(int[] order) {
            prepare();
            orderFound = false;
            orderLeast = 0;
            if (waiting > 0) {
                tryOrders(order, 0, waitingSet, freeSet, MOST_WORTH);
            }
            return waiting;
        }

        private void tryOrders(int[] order, int depth, int waitingYet, int free, int least) {
            // What comes later never makes the least greater, and of like orders the first counts.
            if (orderFound && least <= orderLeast || depth > waiting) {
                return;
            }
            if (depth == waiting) {
                orderFound = true;
                orderLeast = least;
                for (int i = 0; i < waiting && i < order.length; i++) {
                    order[i] = trial[i];
                }
                return;
            }
            for (int guest = 0; guest < recipe.guests; guest++) {
                if ((waitingYet >> guest & 1) == 1 && depth < trial.length) {
                    int piece = pickOf(guest, free);
                    int worth = piece == NONE ? 0 : worths[guest * MOST_PIECES + piece];
                    trial[depth] = guest;
                    tryOrders(order, depth + 1, waitingYet & ~(1 << guest), without(free, piece), Math.min(least, worth));
                }
            }
        }
    }

    /** Like pieces of a tier, p beside one another and q behind one another. */
    private static final class Grids {
        int beside;
        int behind;
        int cuts;
        int difference;

        /** How many pairs there are for n; the best of them is kept. */
        int search(int columns, int rows, int n) {
            int ways = 0;
            for (int p = 1; p <= columns && p <= n; p++) {
                int q = n / p;
                if (p * q == n && canBe(columns, rows, p, q)) {
                    int spread = spreadOf(icingSet(columns, rows, p, q));
                    int needs = p + q - 2;
                    if (ways == 0 || needs < cuts || needs == cuts && spread < difference) {
                        beside = p;
                        behind = q;
                        cuts = needs;
                        difference = spread;
                    }
                    ways++;
                }
            }
            return ways;
        }

        boolean canBe(int columns, int rows, int p, int q) {
            return p >= 1 && q >= 1 && p <= columns && q <= rows && columns % p == 0 && rows % q == 0;
        }

        /** The icings that pieces of such a grid have, as bits. */
        long icingSet(int columns, int rows, int p, int q) {
            long set = 0;
            if (!canBe(columns, rows, p, q)) {
                return set;
            }
            int width = columns / p;
            int depth = rows / q;
            for (int i = 0; i < p; i++) {
                int sides = (i == 0 ? depth : 0) + (i == p - 1 ? depth : 0);
                for (int j = 0; j < q; j++) {
                    int icing = sides + (j == 0 ? width : 0) + (j == q - 1 ? width : 0);
                    set |= 1L << icing;
                }
            }
            return set;
        }

        private static int spreadOf(long icings) {
            int least = NONE;
            int most = NONE;
            for (int icing = 0; icing <= MOST_ICING; icing++) {
                if ((icings >> icing & 1) == 1) {
                    most = icing;
                    least = least == NONE ? icing : least;
                }
            }
            return most - least;
        }
    }

    /** What was seen of a cake cut long ago. */
    private static final class Lore {
        static final int CELLS = 0;
        static final int ICING = 1;
        private static final int LATEST = 100000;
        // No number up to 8 has more than 4 divisors.
        private static final int MOST_PAIRS = 16;

        private final Recipe recipe;
        private final Grids grids;
        private final int[] kinds;
        private final int[] numbers;
        private final boolean[] so;
        private final int[] toldAt;
        private final int[] untoldAt;
        final int[] pairBeside;
        final int[] pairBehind;
        private final long[] pairIcings;
        private int pairs;
        int count;
        int time;
        int askIcing;
        int askLeaves;

        Lore(Recipe recipe, Grids grids) {
            this.recipe = recipe;
            this.grids = grids;
            kinds = new int[MOST_SEEN];
            numbers = new int[MOST_SEEN];
            so = new boolean[MOST_SEEN];
            toldAt = new int[MOST_SEEN];
            untoldAt = new int[MOST_SEEN];
            pairBeside = new int[MOST_PAIRS];
            pairBehind = new int[MOST_PAIRS];
            pairIcings = new long[MOST_PAIRS];
        }

        void forget() {
            count = 0;
        }

        int tell(int kind, int number, boolean is) {
            if (recipe.tiers == 0 || count >= MOST_SEEN) {
                return NONE;
            }
            kinds[count] = kind;
            numbers[count] = number;
            so[count] = is;
            toldAt[count] = time;
            untoldAt[count] = NONE;
            count++;
            return count - 1;
        }

        boolean takeAway(int seen) {
            if (seen < 0 || seen >= count || untoldAt[seen] != NONE) {
                return false;
            }
            untoldAt[seen] = time;
            return true;
        }

        int goOn(int by) {
            if (by < 0 || by > 1000 || time + by > LATEST) {
                return NONE;
            }
            time += by;
            return time;
        }

        private boolean counts(int seen, int k) {
            return toldAt[seen] <= k && (untoldAt[seen] == NONE || untoldAt[seen] > k);
        }

        /** The pairs that fit what was known at k come into the rows; how many. */
        int gather(int k) {
            pairs = 0;
            if (recipe.tiers == 0) {
                return pairs;
            }
            int columns = recipe.tierColumns[0];
            int rows = recipe.tierRows[0];
            for (int p = 1; p <= columns; p++) {
                for (int q = 1; q <= rows; q++) {
                    if (grids.canBe(columns, rows, p, q)) {
                        long icings = grids.icingSet(columns, rows, p, q);
                        int cells = columns / p * (rows / q);
                        if (pairs < MOST_PAIRS && agrees(cells, icings, k)) {
                            pairBeside[pairs] = p;
                            pairBehind[pairs] = q;
                            pairIcings[pairs] = icings;
                            pairs++;
                        }
                    }
                }
            }
            return pairs;
        }

        private boolean agrees(int cells, long icings, int k) {
            for (int seen = 0; seen < count; seen++) {
                if (counts(seen, k)) {
                    boolean was = kinds[seen] == CELLS ? cells == numbers[seen] : (icings >> numbers[seen] & 1) == 1;
                    if (was != so[seen]) {
                        return false;
                    }
                }
            }
            return true;
        }

        int sameInAll(int[] sides) {
            for (int i = 1; i < pairs && i < sides.length; i++) {
                if (sides[i] != sides[0]) {
                    return NO_SUCH;
                }
            }
            return pairs > 0 && sides.length > 0 ? sides[0] : NONE;
        }

        void findQuestion() {
            askIcing = NONE;
            for (int icing = 0; icing <= MOST_ICING; icing++) {
                int yes = 0;
                for (int i = 0; i < pairs; i++) {
                    if ((pairIcings[i] >> icing & 1) == 1) {
                        yes++;
                    }
                }
                int leaves = Math.max(yes, pairs - yes);
                if (askIcing == NONE || leaves < askLeaves) {
                    askIcing = icing;
                    askLeaves = leaves;
                }
            }
        }
    }
}
