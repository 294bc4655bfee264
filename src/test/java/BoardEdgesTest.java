import java.util.Arrays;

/** The board, set(), at(), count(), act() and digest(): each sentence of the document that names a boundary case. */
public final class BoardEdgesTest {
    private static final int MAX = Integer.MAX_VALUE, MIN = Integer.MIN_VALUE;
    private static final Checks CHECKS = new Checks("BoardEdgesTest");

    public static void main(String[] args) {
        terms();
        promisesOfTheBoard();
        promisesOfWhatIsTold();
        CHECKS.end();
    }

    private static void terms() {
        CHECKS.sentence("7 each);", BoardEdgesTest::sidesOfTwoToSeven);
        CHECKS.sentence("CROSSING k is in column k % W, line k / W;", BoardEdgesTest::columnsAndLines);
        CHECKS.sentence("its NEIGHBOURS are those right left, right, above and below it that there are.",
            BoardEdgesTest::neighboursThatThereAre);
        CHECKS.sentence("A CROSSING is free (0), black (1) or white (2).", BoardEdgesTest::threeKindsOfCrossings);
        CHECKS.sentence("A GROUP: a stone and all of its colour that hang together by NEIGHBOURS;",
            BoardEdgesTest::leastAndGreatestGroups);
        CHECKS.sentence("its BREATHS are the free NEIGHBOURS of its stones, each once.", BoardEdgesTest::breathsOnce);
        CHECKS.sentence("An object is used for at most 512 calls after it has been made;",
            BoardEdgesTest::fiveHundredAndTwelveCalls);
    }

    private static void promisesOfTheBoard() {
        CHECKS.sentence("A free BOARD of 5 by 5, LAW 0, black TO MOVE.", BoardEdgesTest::newObject);
        CHECKS.sentence("A free BOARD of W by H, with a LAW (0 .. 2);", BoardEdgesTest::lawsOfZeroToTwo);
        CHECKS.sentence("black TO MOVE; nothing TAKEN: how many ACTS there were. BAD.", BoardEdgesTest::boardAnew);
        CHECKS.sentence("A CROSSING becomes free, black or white,", BoardEdgesTest::setEachKind);
        CHECKS.sentence("and it is a colour's TO MOVE (1, 2): 1. BAD;", BoardEdgesTest::setWhoIsToMove);
        CHECKS.sentence("NO: there was an ACT,", BoardEdgesTest::setBehindAnAct);
        CHECKS.sentence("or some GROUP would have no BREATH.", BoardEdgesTest::setWithoutABreath);
    }

    private static void promisesOfWhatIsTold() {
        CHECKS.sentence("What a CROSSING is: 0, 1, 2. BAD.", BoardEdgesTest::atTheEnds);
        CHECKS.sentence("How many: 0 ACTS, 1 the one TO MOVE, 2 black stones on THE BOARD, 3 white ones, "
            + "4 black ones that were TAKEN, 5 white ones, 6 passes one behind the other now, 7 W, 8 H, "
            + "9 THE LAW. BAD.", BoardEdgesTest::countsOfZeroToNine);
        CHECKS.sentence("The i-th ACT (from 0): its CROSSING; W times H: a pass.", BoardEdgesTest::firstAndLastAct);
        CHECKS.sentence("NONE: there is none such. ## Promise 20", BoardEdgesTest::noSuchAct);
        CHECKS.sentence("h = 47; then h = 31 h + v for each v: count(0) to count(9), CROSSINGS by numbers, ACTS.",
            BoardEdgesTest::digestsOfLeastAndMost);
    }

    private static void due(String call, long got, long want) {
        CHECKS.due(call, got, want);
    }

    private static EyeBoard sized(int w, int h) {
        EyeBoard x = new EyeBoard();
        due("board(" + w + ", " + h + ", 0)", x.board(w, h, 0), 0);
        return x;
    }

    private static boolean isSide(int side) {
        return 2 <= side && side <= 7;
    }

    private static void sidesOfTwoToSeven() {
        int[] sides = {MIN, -2, -1, 0, 1, 2, 3, 4, 5, 6, 7, 8, 9, 49, MAX};
        for (int w : sides) {
            for (int h : sides) {
                boolean fits = isSide(w) && isSide(h);
                EyeBoard x = new EyeBoard();
                due("board(" + w + ", " + h + ", 2)", x.board(w, h, 2), fits ? 0 : EyeBoard.BAD);
                due("W then", x.count(7), fits ? w : 5);
                due("H then", x.count(8), fits ? h : 5);
                due("the last crossing then", x.at(fits ? w * h - 1 : 24), 0);
                due("one behind the last crossing then", x.at(fits ? w * h : 25), EyeBoard.BAD);
            }
        }
    }

    /** Crossing 7 begins line 1 where W is 7, and ends line 3 where W is 2. */
    private static void columnsAndLines() {
        EyeBoard wide = sized(7, 2);
        due("set(7, 1, 1) of 7 by 2", wide.set(7, 1, 1), 1);
        breathsAre(wide, 7, 0, 8);
        EyeBoard high = sized(2, 7);
        due("set(7, 1, 1) of 2 by 7", high.set(7, 1, 1), 1);
        breathsAre(high, 7, 5, 6, 9);
    }

    private static void breathsAre(EyeBoard x, int k, int... want) {
        due("group(" + k + ", 1)", x.group(k, 1), want.length);
        for (int i = 0; i < want.length; i++) {
            due("breath(" + k + ", " + i + ")", x.breath(k, i), want[i]);
        }
        due("breath(" + k + ", " + want.length + ")", x.breath(k, want.length), EyeBoard.NONE);
    }

    /** A lone stone at each crossing of each board: its breaths are its neighbours. */
    private static void neighboursThatThereAre() {
        for (int w = 2; w <= 7; w++) {
            for (int h = 2; h <= 7; h++) {
                for (int k = 0; k < w * h; k++) {
                    EyeBoard x = sized(w, h);
                    due("set(" + k + ", 2, 1)", x.set(k, 2, 1), 1);
                    breathsAre(x, k, neighbours(w, h, k));
                }
            }
        }
    }

    private static int[] neighbours(int w, int h, int k) {
        int[] found = new int[4];
        int many = 0;
        int column = k % w;
        int line = k / w;
        if (line > 0) {
            found[many++] = k - w;
        }
        if (column > 0) {
            found[many++] = k - 1;
        }
        if (column < w - 1) {
            found[many++] = k + 1;
        }
        if (line < h - 1) {
            found[many++] = k + w;
        }
        return Arrays.copyOf(found, many);
    }

    private static void threeKindsOfCrossings() {
        EyeBoard x = CHECKS.picture(0, 1, ".X", "O.");
        due("at(0), free", x.at(0), 0);
        due("at(1), black", x.at(1), 1);
        due("at(2), white", x.at(2), 2);
    }

    private static void leastAndGreatestGroups() {
        EyeBoard apart = CHECKS.picture(0, 1, "X.X", ".X.", "X.X");
        for (int k = 0; k < 9; k += 2) {
            due("a stone by itself, group(" + k + ", 0)", apart.group(k, 0), 1);
        }
        for (int w = 2; w <= 7; w++) {
            EyeBoard x = sized(w, 2);
            due("set() of a line's last crossing", x.set(w - 1, 1, 1), 1);
            due("set() of the next line's first one", x.set(w, 1, 1), 1);
            due("they are two groups, the first", x.group(w - 1, 0), 1);
            due("they are two groups, the second", x.group(w, 0), 1);
        }
        EyeBoard all = allButOne(48, 1);
        due("48 stones, group(0, 0)", all.group(0, 0), 48);
        due("48 stones, group(47, 0)", all.group(47, 0), 48);
        EyeBoard winding = CHECKS.picture(0, 1,
            "XXXXXXX", "......X", "XXXXXXX", "X......", "XXXXXXX", "......X", "XXXXXXX");
        due("a winding group, group(0, 0)", winding.group(0, 0), 31);
        due("a winding group, group(42, 0)", winding.group(42, 0), 31);
        EyeBoard mixed = CHECKS.picture(0, 1, "XXO", "O..");
        due("the other colour's stones are not of it, group(0, 0)", mixed.group(0, 0), 2);
    }

    /** 7 by 7, all but one crossing of one colour; black is to move. */
    private static EyeBoard allButOne(int free, int colour) {
        EyeBoard x = sized(7, 7);
        for (int k = 0; k < 49; k++) {
            if (k != free) {
                due("set(" + k + ")", x.set(k, colour, 1), 1);
            }
        }
        return x;
    }

    private static void breathsOnce() {
        EyeBoard eye = CHECKS.picture(0, 1, "XXX", "X.X", "XXX");
        breathsAre(eye, 0, 4);
        EyeBoard bow = CHECKS.picture(0, 1, "XX.", "X..", "...");
        breathsAre(bow, 3, 2, 4, 6);
        EyeBoard held = CHECKS.picture(0, 1, "XXO", "XO.", "...");
        breathsAre(held, 0, 6);
        EyeBoard last = allButOne(20, 2);
        breathsAre(last, 48, 20);
    }

    /** The dearest calls, up to the last one that counts. */
    private static void fiveHundredAndTwelveCalls() {
        EyeBoard x = new EyeBoard();
        due("call 1, set()", x.set(12, 2, 1), 1);
        for (int call = 2; call <= 508; call++) {
            due("call " + call + ", fight()", x.fight(12, 6), EyeBoard.SPENT);
        }
        due("call 509, lay()", x.lay(24), 0);
        due("call 510, tries()", x.tries(), 600);
        due("call 511, undo()", x.undo(), 0);
        due("call 512, at()", x.at(24), 0);
        EyeBoard y = new EyeBoard();
        for (int call = 1; call <= 510; call += 2) {
            due("call " + call + ", pass()", y.pass(), 1);
            due("call " + (call + 1) + ", undo()", y.undo(), 0);
        }
        due("call 511, pass()", y.pass(), 1);
        due("call 512, count(0)", y.count(0), 1);
    }

    private static void newObject() {
        EyeBoard x = new EyeBoard();
        CHECKS.counts("new", x, 0, 1, 0, 0, 0, 0, 0, 5, 5, 0);
        for (int k = 0; k < 25; k++) {
            due("new, at(" + k + ")", x.at(k), 0);
            due("new, why(" + k + ")", x.why(k), 0);
        }
        due("new, at(25)", x.at(25), EyeBoard.BAD);
        due("new, act(0)", x.act(0), EyeBoard.NONE);
        due("new, undo()", x.undo(), EyeBoard.NO);
        due("new, tries()", x.tries(), 0);
        due("new, first()", x.first(), EyeBoard.NONE);
        due("new, points(1, 0)", x.points(1, 0), 0);
        due("new, standing(2)", x.standing(2), 0);
        EyeBoard y = new EyeBoard();
        due("lay(0) of another object", y.lay(0), 0);
        due("at(0) of the first one", x.at(0), 0);
    }

    private static void lawsOfZeroToTwo() {
        int[] laws = {MIN, -1, 0, 1, 2, 3, MAX};
        for (int law : laws) {
            EyeBoard x = new EyeBoard();
            boolean fits = 0 <= law && law <= 2;
            due("board(4, 3, " + law + ")", x.board(4, 3, law), fits ? 0 : EyeBoard.BAD);
            due("the law then", x.count(9), fits ? law : 0);
            due("W then", x.count(7), fits ? 4 : 5);
        }
    }

    private static void boardAnew() {
        for (int acts : new int[] {0, 1, 119, 120}) {
            EyeBoard x = new EyeBoard();
            for (int i = 1; i <= acts; i++) {
                due("pass()", x.pass(), i);
            }
            due("BAD first: board(1, 5, 0)", x.board(1, 5, 0), EyeBoard.BAD);
            due("board() behind " + acts + " acts", x.board(2, 7, 1), acts);
            CHECKS.counts("then", x, 0, 1, 0, 0, 0, 0, 0, 2, 7, 1);
            due("board() once more", x.board(2, 7, 1), 0);
        }
        EyeBoard taken = CHECKS.picture(1, 1, "XO", "..");
        due("lay(3) takes", taken.lay(3), 1);
        due("board() of the same size and law", taken.board(2, 2, 1), 1);
        CHECKS.counts("nothing taken", taken, 0, 1, 0, 0, 0, 0, 0, 2, 2, 1);
        due("way 0 counts nothing taken", taken.points(1, 0), 0);
        due("undo() brings nothing back", taken.undo(), EyeBoard.NO);
        EyeBoard white = CHECKS.picture(1, 2, "..", "..");
        due("lay(0) by white", white.lay(0), 0);
        due("board()", white.board(2, 2, 1), 1);
        due("pass()", white.pass(), 1);
        due("the boards of the row ahead are gone: why(0)", white.why(0), 0);
    }

    private static void setEachKind() {
        int[] kinds = {MIN, -1, 0, 1, 2, 3, MAX};
        for (int was = 0; was <= 2; was++) {
            for (int what : kinds) {
                EyeBoard x = new EyeBoard();
                due("set(24, " + was + ", 1)", x.set(24, was, 1), 1);
                boolean fits = 0 <= what && what <= 2;
                due("set(24, " + what + ", 1)", x.set(24, what, 1), fits ? 1 : EyeBoard.BAD);
                due("at(24) then", x.at(24), fits ? what : was);
            }
        }
        // The shift of a long wraps around at 64: crossing 64 must not be taken for crossing 0.
        for (int k : new int[] {MIN, -64, -1, 25, 26, 49, 63, 64, 65, 128, MAX}) {
            EyeBoard x = new EyeBoard();
            due("set(" + k + ", 1, 2)", x.set(k, 1, 2), EyeBoard.BAD);
            CHECKS.counts("then", x, 0, 1, 0, 0);
        }
        EyeBoard large = sized(7, 7);
        due("set(0, 1, 1) of 7 by 7", large.set(0, 1, 1), 1);
        due("set(48, 2, 1) of 7 by 7", large.set(48, 2, 1), 1);
        due("set(49, 2, 1) of 7 by 7", large.set(49, 2, 1), EyeBoard.BAD);
        EyeBoard small = sized(2, 2);
        due("set(3, 2, 1) of 2 by 2", small.set(3, 2, 1), 1);
        due("set(4, 2, 1) of 2 by 2", small.set(4, 2, 1), EyeBoard.BAD);
    }

    private static void setWhoIsToMove() {
        for (int toMove : new int[] {MIN, -1, 0, 1, 2, 3, MAX}) {
            for (int was = 1; was <= 2; was++) {
                EyeBoard x = new EyeBoard();
                due("set(0, 0, " + was + ")", x.set(0, 0, was), 1);
                boolean fits = toMove == 1 || toMove == 2;
                due("set(1, 2, " + toMove + ")", x.set(1, 2, toMove), fits ? 1 : EyeBoard.BAD);
                due("to move then", x.count(1), fits ? toMove : was);
                due("at(1) then", x.at(1), fits ? 2 : 0);
            }
        }
        EyeBoard x = new EyeBoard();
        due("set(0, 0, 2)", x.set(0, 0, 2), 1);
        due("lay(3)", x.lay(3), 0);
        due("the stone of the one to move", x.at(3), 2);
        due("to move behind it", x.count(1), 1);
    }

    private static void setBehindAnAct() {
        EyeBoard x = new EyeBoard();
        due("pass()", x.pass(), 1);
        due("set() behind a pass", x.set(0, 1, 1), EyeBoard.NO);
        due("set() of a free crossing to free", x.set(0, 0, 1), EyeBoard.NO);
        due("to move stays", x.count(1), 2);
        due("undo()", x.undo(), 0);
        due("set() when there is no act", x.set(0, 1, 1), 1);
        due("lay(1)", x.lay(1), 0);
        due("set() behind a stone", x.set(1, 0, 1), EyeBoard.NO);
        due("at(1) stays", x.at(1), 1);
        due("pass()", x.pass(), 1);
        due("undo()", x.undo(), 1);
        due("set() behind one act of two", x.set(2, 1, 1), EyeBoard.NO);
        due("board()", x.board(5, 5, 0), 1);
        due("set() of a new board", x.set(1, 2, 2), 1);
    }

    private static void setRefused(String why, int k, int what, String... lines) {
        EyeBoard x = CHECKS.picture(0, 1, lines);
        due(why + ", set(" + k + ", " + what + ", 2)", x.set(k, what, 2), EyeBoard.NO);
        CHECKS.looksLike(why, x, lines);
        due(why + ", to move stays", x.count(1), 1);
    }

    private static void setWithoutABreath() {
        setRefused("the stone itself", 0, 1, ".O.", "O..", "...");
        setRefused("its group", 1, 1, "X.O", "OO.", "...");
        setRefused("a group of the other colour", 3, 1, "OX.", "...", "...");
        setRefused("what is left of a group", 1, 2, "XXX", "OO.", "...");
        setRefused("a larger group of the other colour", 5, 1, "OOX", "OO.", "XX.");
        setRefused("the last free crossing", 3, 1, "XX", "X.");
        setRefused("the last free crossing among two colours", 3, 2, "XO", "X.");
        EyeBoard taking = CHECKS.picture(0, 1, "OX", "..");
        due("set() takes nothing, so it is refused", taking.set(2, 1, 1), EyeBoard.NO);
        due("set() of free gives breaths", taking.set(1, 0, 2), 1);
        EyeBoard joined = CHECKS.picture(0, 1, "X.O", "OX.", "...");
        due("set() that joins a group with a breath", joined.set(1, 1, 2), 1);
        EyeBoard one = CHECKS.picture(0, 1, "X.", "..");
        due("set(1, 1, 1)", one.set(1, 1, 1), 1);
        due("set() that leaves one breath", one.set(2, 1, 1), 1);
        due("its breath", one.breath(0, 0), 3);
    }

    private static void atTheEnds() {
        for (int side = 2; side <= 7; side++) {
            EyeBoard x = sized(side, side);
            int size = side * side;
            due("set() of the first", x.set(0, 1, 1), 1);
            due("set() of the last", x.set(size - 1, 2, 1), 1);
            due("at() of the first", x.at(0), 1);
            due("at() of one that is free", x.at(1), 0);
            due("at() of the last", x.at(size - 1), 2);
            for (int k : new int[] {MIN, -64, -1, size, 64, 64 + size - 1, 128, MAX}) {
                due("at(" + k + ") of " + side + " by " + side, x.at(k), EyeBoard.BAD);
            }
        }
    }

    private static void countsOfZeroToNine() {
        EyeBoard x = CHECKS.picture(2, 2, ".OX.", "....", "X...");
        CHECKS.counts("no act", x, 0, 2, 2, 1, 0, 0, 0, 4, 3, 2);
        int[] acts = {6, 12, 3, 0, 12, 5, 4, 12, 12};
        for (int k : acts) {
            due("act at " + k + " is allowed", (k == 12 ? x.pass() : x.lay(k)) >= 0 ? 1 : 0, 1);
        }
        CHECKS.counts("behind nine acts", x, 9, 1, 2, 4, 2, 0, 2, 4, 3, 2);
        EyeBoard y = CHECKS.picture(1, 1, "XO", "..");
        due("lay(3) by black takes", y.lay(3), 1);
        CHECKS.counts("a white one taken", y, 1, 2, 2, 0, 0, 1, 0, 2, 2, 1);
        for (int what : new int[] {MIN, -1, 10, 11, MAX}) {
            due("count(" + what + ")", y.count(what), EyeBoard.BAD);
        }
        EyeBoard all = allButOne(0, 2);
        CHECKS.counts("48 white ones", all, 0, 1, 0, 48, 0, 0, 0, 7, 7, 0);
        due("lay(0) takes 48", all.lay(0), 48);
        CHECKS.counts("48 taken", all, 1, 2, 1, 0, 0, 48, 0, 7, 7, 0);
    }

    private static void firstAndLastAct() {
        EyeBoard x = sized(7, 7);
        due("lay(48)", x.lay(48), 0);
        due("pass()", x.pass(), 1);
        due("lay(0)", x.lay(0), 0);
        due("act(0), the last crossing", x.act(0), 48);
        due("act(1), a pass", x.act(1), 49);
        due("act(2), the first crossing", x.act(2), 0);
        EyeBoard y = sized(2, 2);
        for (int i = 1; i <= 120; i++) {
            due("pass()", y.pass(), i);
        }
        due("act(0) of 120", y.act(0), 4);
        due("act(119) of 120", y.act(119), 4);
    }

    private static void noSuchAct() {
        EyeBoard x = sized(3, 3);
        for (int i : new int[] {MIN, -1, 0, 1, MAX}) {
            due("act(" + i + ") of none", x.act(i), EyeBoard.NONE);
        }
        due("lay(4)", x.lay(4), 0);
        for (int i : new int[] {MIN, -1, 1, 2, 119, 120, 121, 127, 128, MAX}) {
            due("act(" + i + ") of one", x.act(i), EyeBoard.NONE);
        }
        due("undo()", x.undo(), 0);
        due("act(0) taken back", x.act(0), EyeBoard.NONE);
        for (int i = 1; i <= 120; i++) {
            due("pass()", x.pass(), i);
        }
        for (int i : new int[] {MIN, -1, 120, 121, 125, 126, 127, MAX}) {
            due("act(" + i + ") of 120", x.act(i), EyeBoard.NONE);
        }
        due("board()", x.board(3, 3, 0), 120);
        due("act(0) of a new board", x.act(0), EyeBoard.NONE);
    }

    private static long digestBy(long begin, long... values) {
        long h = begin;
        for (long v : values) {
            h = 31 * h + v;
        }
        return h;
    }

    /** Even the least board's digest goes beyond a long, so that it wraps around. */
    private static void digestsOfLeastAndMost() {
        EyeBoard x = sized(2, 2);
        due("digest() without an act", x.digest(), digestBy(47, 0, 1, 0, 0, 0, 0, 0, 2, 2, 0, 0, 0, 0, 0));
        due("pass()", x.pass(), 1);
        due("digest() behind a pass", x.digest(), digestBy(47, 1, 2, 0, 0, 0, 0, 1, 2, 2, 0, 0, 0, 0, 0, 4));
        due("undo()", x.undo(), 0);
        due("lay(3)", x.lay(3), 0);
        due("digest() behind a stone", x.digest(), digestBy(47, 1, 2, 1, 0, 0, 0, 0, 2, 2, 0, 0, 0, 0, 1, 3));
        EyeBoard most = sized(7, 7);
        due("lay(48)", most.lay(48), 0);
        for (int i = 1; i <= 119; i++) {
            due("pass()", most.pass(), i);
        }
        long h = digestBy(47, 120, 1, 1, 0, 0, 0, 119, 7, 7, 0);
        for (int k = 0; k < 49; k++) {
            h = digestBy(h, k == 48 ? 1 : 0);
        }
        h = digestBy(h, 48);
        for (int i = 1; i <= 119; i++) {
            h = digestBy(h, 49);
        }
        due("digest() of 49 crossings and 120 acts", most.digest(), h);
        due("digest() once more", most.digest(), h);
    }
}
