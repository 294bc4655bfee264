/**
 * A board of crossings on which black and white lay stones in turn.
 *
 * <p>A set of crossings is a long, bit k of which is crossing k: 7 by 7 crossings need 49 bits. So boards are numbers,
 * and no call makes an object: what the class needs is made in its constructor.
 */
public final class EyeBoard {
    public static final int NONE = -1, BAD = -2, NO = -3, FULL = -4, SPENT = -5;

    private static final int BLACK = 1, WHITE = 2;
    private static final int LEAST_SIDE = 2, MOST_SIDE = 7, FIRST_SIDE = 5;
    private static final int MOST_CROSSINGS = MOST_SIDE * MOST_SIDE;
    private static final int MOST_LAW = 2, CHASE_LAW = 0;
    private static final int MOST_ACTS = 120, MOST_TRIES = 600;
    private static final int MOST_CHASE = 20, MOST_FIGHT = 6;
    private static final int MOST_OF_GROUP = 4, MOST_OF_REGION = 4, MOST_WAY = 1, MOST_COUNT = 9;

    private final Grid grid;
    private final Row row;
    private final Life life;
    private final Tries tried;
    private final Chase hunt;
    private final Fight struggle;
    private int winningAct;

    public EyeBoard() {
        grid = new Grid();
        grid.measure(FIRST_SIDE, FIRST_SIDE);
        // A fight goes on behind the latest act, even behind the last one that there may be.
        row = new Row(grid, MOST_ACTS + MOST_FIGHT);
        row.begin(0L, 0L, BLACK, 0);
        life = new Life(grid);
        tried = new Tries();
        // Each of the chasing stones may be answered by one of the other colour.
        hunt = new Chase(grid, new Row(grid, 2 * MOST_CHASE), tried);
        struggle = new Fight(grid, row, tried);
        winningAct = NONE;
    }

    public int board(int w, int h, int law) {
        if (!isSide(w) || !isSide(h) || law < 0 || law > MOST_LAW) {
            return BAD;
        }
        int acts = row.latest;
        grid.measure(w, h);
        row.begin(0L, 0L, BLACK, law);
        return acts;
    }

    public int set(int k, int what, int toMove) {
        if (!grid.has(k) || what < 0 || what > WHITE || !isColour(toMove)) {
            return BAD;
        }
        long stone = 1L << k;
        long black = (row.stonesOf(BLACK) & ~stone) | (what == BLACK ? stone : 0L);
        long white = (row.stonesOf(WHITE) & ~stone) | (what == WHITE ? stone : 0L);
        long free = grid.all & ~(black | white);
        if (row.latest > 0 || !grid.allBreathe(black, free) || !grid.allBreathe(white, free)) {
            return NO;
        }
        row.begin(black, white, toMove, row.law);
        return 1;
    }

    public int lay(int k) {
        if (!grid.has(k)) {
            return BAD;
        }
        if (row.reasonAgainst(k) != 0) {
            return NO;
        }
        if (row.latest >= MOST_ACTS) {
            return FULL;
        }
        row.add(k);
        return row.takenBy(row.latest, row.mover());
    }

    public int pass() {
        if (row.latest >= MOST_ACTS) {
            return FULL;
        }
        row.add(grid.size);
        return row.passesNow();
    }

    public int why(int k) {
        return grid.has(k) ? row.reasonAgainst(k) : BAD;
    }

    public int undo() {
        if (row.latest <= 0) {
            return NO;
        }
        row.takeBack();
        return row.latest;
    }

    public int at(int k) {
        return grid.has(k) ? row.colourAt(k) : BAD;
    }

    public int group(int k, int what) {
        if (!grid.has(k) || what < 0 || what > MOST_OF_GROUP) {
            return BAD;
        }
        int colour = row.colourAt(k);
        if (colour == 0) {
            return NO;
        }
        long stones = row.stonesOf(colour);
        long group = grid.spread(1L << k, stones);
        switch (what) {
            case 0:
                return Long.bitCount(group);
            case 1:
                return Long.bitCount(grid.beside(group) & row.free());
            case 2:
                return grid.nth(group, 0);
            case 3:
                return life.vitalRegions(group, grid.all & ~stones, row.free());
            default:
                return (group & life.standingStones(stones, row.free())) != 0L ? 1 : 0;
        }
    }

    public int breath(int k, int i) {
        if (!grid.has(k)) {
            return BAD;
        }
        int colour = row.colourAt(k);
        if (colour == 0) {
            return NO;
        }
        long group = grid.spread(1L << k, row.stonesOf(colour));
        return grid.nth(grid.beside(group) & row.free(), i);
    }

    public int region(int colour, int k, int what) {
        if (!isColour(colour) || !grid.has(k) || what < 0 || what > MOST_OF_REGION) {
            return BAD;
        }
        if (row.colourAt(k) == colour) {
            return NO;
        }
        long stones = row.stonesOf(colour);
        long region = grid.spread(1L << k, grid.all & ~stones);
        switch (what) {
            case 0:
                return Long.bitCount(region);
            case 1:
                return Long.bitCount(region & row.free());
            case 2:
                return life.groupsTouched(region, stones);
            case 3:
                return life.groupsItIsVitalTo(region, stones, row.free());
            default:
                return grid.nth(region, 0);
        }
    }

    public int standing(int colour) {
        return isColour(colour) ? Long.bitCount(life.standingStones(row.stonesOf(colour), row.free())) : BAD;
    }

    public int chase(int k, int n) {
        if (!grid.has(k) || n < 1 || n > MOST_CHASE) {
            return BAD;
        }
        return row.colourAt(k) == 0 ? NO : hunt.read(row, k, n);
    }

    public int fight(int k, int n) {
        if (!grid.has(k) || n < 1 || n > MOST_FIGHT) {
            return BAD;
        }
        int colour = row.colourAt(k);
        if (colour == 0) {
            return NO;
        }
        int told = struggle.read(k, n);
        if (told == 1 && colour != row.mover()) {
            winningAct = struggle.decidingAct;
        }
        return told;
    }

    public int tries() {
        return tried.made;
    }

    public int first() {
        return winningAct;
    }

    public int points(int colour, int way) {
        if (!isColour(colour) || way < 0 || way > MOST_WAY) {
            return BAD;
        }
        long own = row.stonesOf(colour);
        long others = row.stonesOf(other(colour));
        int held = Long.bitCount(grid.freeOf(own, others));
        return held + (way == 0 ? row.taken(other(colour)) : Long.bitCount(own));
    }

    public int count(int what) {
        if (what < 0 || what > MOST_COUNT) {
            return BAD;
        }
        switch (what) {
            case 0:
                return row.latest;
            case 1:
                return row.mover();
            case 2:
                return Long.bitCount(row.stonesOf(BLACK));
            case 3:
                return Long.bitCount(row.stonesOf(WHITE));
            case 4:
                return row.taken(BLACK);
            case 5:
                return row.taken(WHITE);
            case 6:
                return row.passesNow();
            case 7:
                return grid.width;
            case 8:
                return grid.height;
            default:
                return row.law;
        }
    }

    public int act(int i) {
        return row.actAt(i);
    }

    public long digest() {
        long h = 47L;
        for (int what = 0; what <= MOST_COUNT; what++) {
            h = 31L * h + count(what);
        }
        for (int k = 0; k < grid.size; k++) {
            h = 31L * h + row.colourAt(k);
        }
        for (int i = 0; i < row.latest; i++) {
            h = 31L * h + row.actAt(i);
        }
        return h;
    }

    private static boolean isSide(int side) {
        return side >= LEAST_SIDE && side <= MOST_SIDE;
    }

    private static boolean isColour(int colour) {
        return colour == BLACK || colour == WHITE;
    }

    private static int other(int colour) {
        return BLACK + WHITE - colour;
    }

    /** The crossings, and what hangs together on them. */
    private static final class Grid {
        int width;
        int height;
        int size;
        long all;
        private long notFirstColumn;
        private long notLastColumn;

        void measure(int w, int h) {
            width = w;
            height = h;
            size = w * h;
            all = (1L << size) - 1L;
            long firstColumn = 0L;
            for (int line = 0; line < h; line++) {
                firstColumn |= 1L << (line * w);
            }
            notFirstColumn = all & ~firstColumn;
            notLastColumn = all & ~(firstColumn << (w - 1));
        }

        boolean has(int k) {
            return k >= 0 && k < size;
        }

        static boolean holds(long set, int k) {
            return ((set >>> k) & 1L) != 0L;
        }

        /** The neighbours of all crossings of a set; some of these may be of the set itself. */
        long beside(long set) {
            long sideways = ((set & notLastColumn) << 1) | ((set & notFirstColumn) >>> 1);
            return (sideways | (set << width) | (set >>> width)) & all;
        }

        /** All crossings within a set that hang together with a seed in it. */
        long spread(long seed, long within) {
            long reached = seed & within;
            for (int step = 0; step < MOST_CROSSINGS; step++) {
                long further = (reached | beside(reached)) & within;
                if (further == reached) {
                    break;
                }
                reached = further;
            }
            return reached;
        }

        /** The part of a set that hangs together and has k as its least crossing; an empty set if there is none. */
        long partFrom(long set, int k) {
            long seed = (1L << k) & set;
            long ahead = (1L << k) - 1L;
            if (seed == 0L || (beside(seed) & set & ahead) != 0L) {
                return 0L;
            }
            long part = spread(seed, set);
            return (part & ahead) == 0L ? part : 0L;
        }

        boolean allBreathe(long stones, long free) {
            return spread(beside(free), stones) == stones;
        }

        /** The i-th crossing of a set, by numbers. */
        int nth(long set, int i) {
            int ahead = 0;
            for (int k = 0; k < size; k++) {
                if (holds(set, k)) {
                    if (ahead == i) {
                        return k;
                    }
                    ahead++;
                }
            }
            return NONE;
        }

        /** The free crossings that are of the colour whose stones are told first. */
        long freeOf(long own, long others) {
            long free = all & ~(own | others);
            long held = 0L;
            for (int k = 0; k < size; k++) {
                long part = partFrom(free, k);
                long touched = beside(part);
                if ((touched & own) != 0L && (touched & others) == 0L) {
                    held |= part;
                }
            }
            return held;
        }
    }

    /** A row of boards, with the acts between them; the colours are to move in turn. */
    private static final class Row {
        private final Grid grid;
        private final long[] black;
        private final long[] white;
        private final int[] acts;
        int law;
        int latest;
        private int opener;
        private long blackThen;
        private long whiteThen;

        Row(Grid grid, int mostActs) {
            this.grid = grid;
            int room = Math.max(mostActs, 0) + 1;
            black = new long[room];
            white = new long[room];
            acts = new int[room];
        }

        void begin(long blackStones, long whiteStones, int toMove, int lawOfRow) {
            law = lawOfRow;
            latest = 0;
            opener = toMove;
            keep(0, blackStones, whiteStones);
        }

        private void keep(int i, long blackStones, long whiteStones) {
            if (i >= 0 && i < black.length && i < white.length) {
                black[i] = blackStones;
                white[i] = whiteStones;
            }
        }

        private long stonesThen(int i, int colour) {
            long[] stones = colour == BLACK ? black : white;
            return i >= 0 && i < stones.length ? stones[i] : 0L;
        }

        private int moverThen(int i) {
            return (i & 1) == 0 ? opener : BLACK + WHITE - opener;
        }

        long stonesOf(int colour) {
            return stonesThen(latest, colour);
        }

        int mover() {
            return moverThen(latest);
        }

        long free() {
            return grid.all & ~(stonesThen(latest, BLACK) | stonesThen(latest, WHITE));
        }

        int colourAt(int k) {
            if (Grid.holds(stonesOf(BLACK), k)) {
                return BLACK;
            }
            return Grid.holds(stonesOf(WHITE), k) ? WHITE : 0;
        }

        int actAt(int i) {
            return i >= 0 && i < latest && i < acts.length ? acts[i] : NONE;
        }

        /** Why the one to move can't lay at a crossing. Where it is 0, blackThen and whiteThen are the board then. */
        int reasonAgainst(int k) {
            if (!Grid.holds(free(), k)) {
                return 1;
            }
            long stone = 1L << k;
            int mover = mover();
            long own = stonesOf(mover) | stone;
            long others = stonesOf(other(mover));
            others = grid.spread(grid.beside(grid.all & ~(own | others)), others);
            long freeThen = grid.all & ~(own | others);
            if ((grid.beside(grid.spread(stone, own)) & freeThen) == 0L) {
                return 2;
            }
            blackThen = mover == BLACK ? own : others;
            whiteThen = mover == BLACK ? others : own;
            return isRefusedByLaw() ? 3 : 0;
        }

        /** The latest board needs no look: it has no stone where this one has its newest. */
        private boolean isRefusedByLaw() {
            int oldest = law == 0 ? latest - 1 : 0;
            for (int i = latest - 1; i >= oldest && i >= 0; i--) {
                boolean counts = law != 2 || moverThen(i) == moverThen(latest + 1);
                if (counts && stonesThen(i, BLACK) == blackThen && stonesThen(i, WHITE) == whiteThen) {
                    return true;
                }
            }
            return false;
        }

        /** Lays a stone, or passes where k is behind the last crossing; false, changing nothing, if it can't be. */
        boolean add(int k) {
            if (latest + 1 >= black.length || latest < 0 || latest >= acts.length) {
                return false;
            }
            if (k == grid.size) {
                keep(latest + 1, stonesOf(BLACK), stonesOf(WHITE));
            } else if (grid.has(k) && reasonAgainst(k) == 0) {
                keep(latest + 1, blackThen, whiteThen);
            } else {
                return false;
            }
            acts[latest] = k;
            latest++;
            return true;
        }

        void takeBack() {
            latest = Math.max(latest - 1, 0);
        }

        int passesNow() {
            int passes = 0;
            for (int i = latest - 1; i >= 0 && actAt(i) == grid.size; i--) {
                passes++;
            }
            return passes;
        }

        /** How many stones of a colour were taken by the act ahead of the i-th board. */
        int takenBy(int i, int colour) {
            return Long.bitCount(stonesThen(i - 1, colour) & ~stonesThen(i, colour));
        }

        int taken(int colour) {
            int all = 0;
            for (int i = 1; i <= latest; i++) {
                all += takenBy(i, colour);
            }
            return all;
        }
    }

    /** Regions of a colour, the groups to which they are vital, and the groups that stand. */
    private static final class Life {
        private final Grid grid;

        Life(Grid grid) {
            this.grid = grid;
        }

        private boolean isVital(long region, long group, long free) {
            long besideGroup = grid.beside(group);
            return (region & besideGroup) != 0L && (region & free & ~besideGroup) == 0L;
        }

        /** How many of the regions that make up a set are vital to a group. */
        int vitalRegions(long group, long regions, long free) {
            int vital = 0;
            for (int k = 0; k < grid.size; k++) {
                vital += isVital(grid.partFrom(regions, k), group, free) ? 1 : 0;
            }
            return vital;
        }

        int groupsTouched(long region, long stones) {
            long besideRegion = grid.beside(region);
            int touched = 0;
            for (int k = 0; k < grid.size; k++) {
                touched += (grid.partFrom(stones, k) & besideRegion) != 0L ? 1 : 0;
            }
            return touched;
        }

        int groupsItIsVitalTo(long region, long stones, long free) {
            int groups = 0;
            for (int k = 0; k < grid.size; k++) {
                groups += isVital(region, grid.partFrom(stones, k), free) ? 1 : 0;
            }
            return groups;
        }

        /** The stones of a colour that stand: all but the groups that are left out, one round after the other. */
        long standingStones(long stones, long free) {
            long left = stones;
            long regions = grid.all & ~stones;
            for (int round = 0; round < MOST_CROSSINGS; round++) {
                long out = groupsWithoutTwo(left, regions, free);
                if (out == 0L) {
                    break;
                }
                left &= ~out;
                regions &= ~grid.spread(grid.beside(out), regions);
            }
            return left;
        }

        private long groupsWithoutTwo(long stones, long regions, long free) {
            long without = 0L;
            for (int k = 0; k < grid.size; k++) {
                long group = grid.partFrom(stones, k);
                if (group != 0L && vitalRegions(group, regions, free) < 2) {
                    without |= group;
                }
            }
            return without;
        }
    }

    /** The tries of the search at hand, or of the latest one. */
    private static final class Tries {
        int made;

        /** Counts one more; false, not counting it, if it would be one too many. */
        boolean oneMore() {
            if (made >= MOST_TRIES) {
                return false;
            }
            made++;
            return true;
        }
    }

    /** Reads chases, on a row of boards of its own: its law looks at the boards of the chase alone. */
    private static final class Chase {
        private final Grid grid;
        private final Row row;
        private final Tries tried;
        private int target;
        private int chased;

        Chase(Grid grid, Row row, Tries tried) {
            this.grid = grid;
            this.row = row;
            this.tried = tried;
        }

        int read(Row game, int k, int n) {
            target = k;
            chased = game.colourAt(k);
            tried.made = 0;
            row.begin(game.stonesOf(BLACK), game.stonesOf(WHITE), other(chased), CHASE_LAW);
            return caughtIn(n);
        }

        private long targetGroup() {
            return grid.spread(1L << target, row.stonesOf(chased));
        }

        /** 1 caught, 0 not, or SPENT; the chasing colour is to lay. */
        private int caughtIn(int n) {
            long breaths = grid.beside(targetGroup()) & row.free();
            int many = Long.bitCount(breaths);
            if (many < 1 || many > 2 || n < many) {
                return 0;
            }
            int told = 0;
            for (int k = 0; k < grid.size && told == 0; k++) {
                if (!Grid.holds(breaths, k) || !row.add(k)) {
                    continue;
                }
                if (!tried.oneMore()) {
                    told = SPENT;
                } else {
                    told = many == 1 ? 1 : answersFail(n);
                }
                row.takeBack();
            }
            return told;
        }

        /** 1 all fail, 0 not, or SPENT; the chased colour is to answer the first of n stones. */
        private int answersFail(int n) {
            long group = targetGroup();
            long last = grid.beside(group) & row.free();
            long taking = takingCrossings(group) & ~last;
            int told = Long.bitCount(last) == 1 ? 1 : 0;
            // The breath goes ahead of what takes groups, so it has its turn ahead of crossing 0.
            for (int turn = -1; turn < grid.size && told == 1; turn++) {
                int k = turn < 0 ? grid.nth(last, 0) : turn;
                boolean isAnswer = turn < 0 || Grid.holds(taking, k);
                if (isAnswer && row.add(k)) {
                    told = tried.oneMore() ? caughtIn(n - 1) : SPENT;
                    row.takeBack();
                }
            }
            return told;
        }

        /** Where a stone would take a group of the chasing colour that touches the chased one. */
        private long takingCrossings(long group) {
            long touching = grid.spread(grid.beside(group), row.stonesOf(other(chased)));
            long taking = 0L;
            for (int k = 0; k < grid.size; k++) {
                long breaths = grid.beside(grid.partFrom(touching, k)) & row.free();
                if (Long.bitCount(breaths) == 1) {
                    taking |= breaths;
                }
            }
            return taking;
        }
    }

    /** Searches fights, on the game's own row of boards, which the law looks at, too. */
    private static final class Fight {
        private final Grid grid;
        private final Row row;
        private final Tries tried;
        private int target;
        private int attacked;
        int decidingAct;

        Fight(Grid grid, Row row, Tries tried) {
            this.grid = grid;
            this.row = row;
            this.tried = tried;
        }

        int read(int k, int n) {
            target = k;
            attacked = row.colourAt(k);
            decidingAct = NONE;
            tried.made = 0;
            return takenIn(n);
        }

        /** 1 taken, 0 not, or SPENT. The first act is decided last, so it is what decidingAct tells in the end. */
        private int takenIn(int n) {
            if (n < 1) {
                return 0;
            }
            int undecided = row.mover() == attacked ? 1 : 0;
            for (int k = 0; k <= grid.size; k++) {
                if (!row.add(k)) {
                    continue;
                }
                int told = tried.oneMore() ? takenBehindAct(n) : SPENT;
                row.takeBack();
                if (told != undecided) {
                    decidingAct = k;
                    return told;
                }
            }
            return undecided;
        }

        private int takenBehindAct(int n) {
            return row.colourAt(target) != attacked ? 1 : takenIn(n - 1);
        }
    }
}
