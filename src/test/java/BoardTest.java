/** Promises 1 to 8 and 18 to 20: the board, its acts, and what is counted of them. */
public final class BoardTest {
    private static final int MAX = Integer.MAX_VALUE, MIN = Integer.MIN_VALUE;
    private static final String[] KO = {".XO.", "XO.O", ".XO."};
    private static final Checks CHECKS = new Checks("BoardTest");

    public static void main(String[] args) {
        newObject();
        boardIsFree();
        badBoardChangesNothing();
        setOneCrossing();
        setAndBreaths();
        layTakes();
        layRefused();
        fullRow();
        passes();
        reasons();
        koByEachLaw();
        lawsTellApart();
        lawsAndPasses();
        undoGivesBack();
        undoneBoardsAreForgotten();
        atEachCrossing();
        counts();
        actsByNumber();
        digestOfARun();
        CHECKS.end();
    }

    private static void due(String call, long got, long want) {
        CHECKS.due(call, got, want);
    }

    private static void newObject() {
        EyeBoard x = new EyeBoard();
        CHECKS.counts("new", x, 0, 1, 0, 0, 0, 0, 0, 5, 5, 0);
        CHECKS.looksLike("new", x, ".....", ".....", ".....", ".....", ".....");
        due("new, at(25)", x.at(25), EyeBoard.BAD);
        due("new, tries()", x.tries(), 0);
        due("new, first()", x.first(), EyeBoard.NONE);
        due("new, act(0)", x.act(0), EyeBoard.NONE);
        due("new, undo()", x.undo(), EyeBoard.NO);
        due("new, lay(24)", x.lay(24), 0);
        due("new, at(24)", x.at(24), 1);
    }

    private static void boardIsFree() {
        EyeBoard x = CHECKS.picture(0, 1, "XO.", "...");
        due("lay(4)", x.lay(4), 0);
        due("pass()", x.pass(), 1);
        due("lay(2)", x.lay(2), 1);
        due("board(7, 2, 2)", x.board(7, 2, 2), 3);
        CHECKS.counts("behind board()", x, 0, 1, 0, 0, 0, 0, 0, 7, 2, 2);
        CHECKS.looksLike("board(7, 2, 2)", x, ".......", ".......");
        due("at(14) of 7 by 2", x.at(14), EyeBoard.BAD);
        due("act(0) behind board()", x.act(0), EyeBoard.NONE);
        due("undo() behind board()", x.undo(), EyeBoard.NO);
        due("board(2, 7, 1)", x.board(2, 7, 1), 0);
        CHECKS.counts("2 by 7", x, 0, 1, 0, 0, 0, 0, 0, 2, 7, 1);
        due("board(7, 7, 0)", x.board(7, 7, 0), 0);
        due("at(48) of 7 by 7", x.at(48), 0);
        due("at(49) of 7 by 7", x.at(49), EyeBoard.BAD);
        due("board(2, 2, 0)", x.board(2, 2, 0), 0);
        due("at(4) of 2 by 2", x.at(4), EyeBoard.BAD);
        due("pass()", x.pass(), 1);
        due("pass()", x.pass(), 2);
        due("undo()", x.undo(), 1);
        due("board() behind an undo()", x.board(3, 2, 0), 1);
        due("set(0, 1, 2)", x.set(0, 1, 2), 1);
        due("board() behind set()", x.board(3, 2, 0), 0);
        CHECKS.counts("board() behind set()", x, 0, 1, 0, 0, 0, 0, 0, 3, 2, 0);
    }

    private static void badBoardChangesNothing() {
        EyeBoard x = CHECKS.picture(1, 2, "..X", ".O.");
        due("lay(0)", x.lay(0), 0);
        long before = x.digest();
        int[][] bad = {{1, 2, 0}, {2, 1, 0}, {8, 2, 0}, {2, 8, 0}, {2, 2, -1}, {2, 2, 3}, {0, 0, 0}, {-1, 5, 0},
            {5, -1, 0}, {MAX, 5, 0}, {5, MIN, 0}, {5, 5, MAX}};
        for (int[] b : bad) {
            due("board(" + b[0] + ", " + b[1] + ", " + b[2] + ")", x.board(b[0], b[1], b[2]), EyeBoard.BAD);
            due("digest() behind it", x.digest(), before);
        }
        for (int side = 2; side <= 7; side++) {
            due("board(side, 9 - side, side % 3)", x.board(side, 9 - side, side % 3), side == 2 ? 1 : 0);
            due("its law", x.count(9), side % 3);
        }
    }

    private static void setOneCrossing() {
        EyeBoard x = new EyeBoard();
        due("set(0, 1, 2)", x.set(0, 1, 2), 1);
        due("at(0)", x.at(0), 1);
        due("to move", x.count(1), 2);
        due("set(0, 2, 1)", x.set(0, 2, 1), 1);
        due("at(0)", x.at(0), 2);
        due("to move", x.count(1), 1);
        due("set(24, 2, 1)", x.set(24, 2, 1), 1);
        due("set(0, 0, 2)", x.set(0, 0, 2), 1);
        CHECKS.counts("behind set()", x, 0, 2, 0, 1, 0, 0, 0, 5, 5, 0);
        int[][] bad = {{-1, 1, 1}, {25, 1, 1}, {0, -1, 1}, {0, 3, 1}, {0, 1, 0}, {0, 1, 3}, {MAX, 0, 1}, {0, MIN, 1},
            {0, 0, MAX}};
        long before = x.digest();
        for (int[] b : bad) {
            due("set(" + b[0] + ", " + b[1] + ", " + b[2] + ")", x.set(b[0], b[1], b[2]), EyeBoard.BAD);
        }
        due("digest() behind BAD", x.digest(), before);
        due("pass()", x.pass(), 1);
        due("set() behind an act", x.set(3, 1, 2), EyeBoard.NO);
        due("set(), BAD ahead of NO", x.set(3, 1, 0), EyeBoard.BAD);
        due("at(3)", x.at(3), 0);
        due("to move", x.count(1), 1);
        due("undo()", x.undo(), 0);
        due("to move as it was set", x.count(1), 2);
        due("set() when no act is left", x.set(3, 1, 1), 1);
        due("lay(4)", x.lay(4), 0);
        due("set() behind a stone", x.set(7, 1, 1), EyeBoard.NO);
    }

    private static void setAndBreaths() {
        EyeBoard x = CHECKS.picture(0, 1, "XO", "..");
        due("set() on another group's last breath", x.set(2, 2, 2), EyeBoard.NO);
        due("to move stays", x.count(1), 1);
        due("at(2)", x.at(2), 0);
        due("set(2, 1, 1)", x.set(2, 1, 1), 1);
        due("set() of the last free crossing", x.set(3, 1, 1), EyeBoard.NO);
        due("set() of a stone over another", x.set(0, 2, 1), 1);
        CHECKS.looksLike("set()", x, "OO", "X.");
        EyeBoard y = CHECKS.picture(0, 1, ".OX", "OX.");
        due("set() of a stone without a breath", y.set(0, 1, 1), EyeBoard.NO);
        due("set() that leaves a group breathless", y.set(5, 2, 1), EyeBoard.NO);
        due("set() of the last breath of all", y.set(0, 2, 2), EyeBoard.NO);
        CHECKS.looksLike("set() refused", y, ".OX", "OX.");
        due("set() that joins what breathes", y.set(1, 1, 1), 1);
        EyeBoard z = CHECKS.picture(0, 1, "O..", "...");
        due("set(1, 1, 1)", z.set(1, 1, 1), 1);
        due("set() beside a group of one breath", z.set(3, 2, 1), 1);
        due("set() that would take in play", z.set(4, 1, 1), EyeBoard.NO);
        due("set() takes nothing", z.at(0), 2);
    }

    private static void layTakes() {
        EyeBoard x = CHECKS.picture(0, 1, "XOO.", ".XX.", "....");
        due("lay(3) takes a group", x.lay(3), 2);
        CHECKS.looksLike("lay(3)", x, "X..X", ".XX.", "....");
        CHECKS.counts("lay(3)", x, 1, 2, 4, 0, 0, 2, 0, 4, 3, 0);
        due("lay(1) by white", x.lay(1), 0);
        due("lay(2) by black takes again", x.lay(2), 1);
        due("taken in all", x.count(5), 3);
        EyeBoard y = CHECKS.picture(0, 1, ".OX", "OX.", "XX.");
        due("lay(0) takes two groups", y.lay(0), 2);
        CHECKS.looksLike("lay(0)", y, "X.X", ".X.", "XX.");
        EyeBoard z = CHECKS.picture(0, 2, ".X.", "XO.", "O..");
        due("lay(2) by white", z.lay(2), 0);
        due("pass()", z.pass(), 1);
        due("lay(0) by white takes black ones", z.lay(0), 2);
        CHECKS.looksLike("lay(0)", z, "O.O", ".O.", "O..");
        CHECKS.counts("lay(0)", z, 3, 1, 0, 4, 2, 0, 0, 3, 3, 0);
        EyeBoard v = CHECKS.picture(0, 1, "OO", ".O");
        due("lay(2) takes three of four", v.lay(2), 3);
        CHECKS.looksLike("lay(2)", v, "..", "X.");
        EyeBoard edge = CHECKS.picture(0, 1, ".XO", "X..");
        due("lay(5) takes nothing across the edge", edge.lay(5), 1);
        due("at(3)", edge.at(3), 1);
    }

    private static void layRefused() {
        EyeBoard x = CHECKS.picture(0, 1, "X.O", "OO.", "...");
        long before = x.digest();
        due("lay(0), not free", x.lay(0), EyeBoard.NO);
        due("lay(2), not free", x.lay(2), EyeBoard.NO);
        due("lay(1), the group would have no breath", x.lay(1), EyeBoard.NO);
        for (int k : new int[] {-1, 9, MAX, MIN}) {
            due("lay(" + k + ")", x.lay(k), EyeBoard.BAD);
        }
        due("digest() behind refusals", x.digest(), before);
        due("lay(5)", x.lay(5), 0);
        due("lay(1) by white takes", x.lay(1), 1);
    }

    private static void fullRow() {
        EyeBoard x = CHECKS.picture(0, 1, "...", ".X.", "...");
        for (int i = 1; i <= 120; i++) {
            due("pass() " + i, x.pass(), i);
        }
        long before = x.digest();
        due("pass() 121", x.pass(), EyeBoard.FULL);
        due("lay(0), full", x.lay(0), EyeBoard.FULL);
        due("lay(4), NO ahead of FULL", x.lay(4), EyeBoard.NO);
        due("lay(9), BAD ahead of FULL", x.lay(9), EyeBoard.BAD);
        due("why(0), full", x.why(0), 0);
        due("digest(), full", x.digest(), before);
        due("act(119)", x.act(119), 9);
        due("act(120)", x.act(120), EyeBoard.NONE);
        due("fight(4, 1), full", x.fight(4, 1), 0);
        due("tries(), full", x.tries(), 1);
        due("digest() behind a fight", x.digest(), before);
        due("undo()", x.undo(), 119);
        due("lay(0) as the 120th", x.lay(0), 0);
        due("lay(1), full again", x.lay(1), EyeBoard.FULL);
        due("pass(), full again", x.pass(), EyeBoard.FULL);
        due("count(6)", x.count(6), 0);
        due("board()", x.board(3, 3, 0), 120);
    }

    private static void passes() {
        EyeBoard x = new EyeBoard();
        due("pass() 1", x.pass(), 1);
        due("to move", x.count(1), 2);
        due("pass() 2", x.pass(), 2);
        due("to move", x.count(1), 1);
        due("pass() 3", x.pass(), 3);
        due("lay(0)", x.lay(0), 0);
        due("at(0)", x.at(0), 2);
        due("count(6) behind a stone", x.count(6), 0);
        due("pass() behind a stone", x.pass(), 1);
        due("undo()", x.undo(), 4);
        due("undo()", x.undo(), 3);
        due("count(6) of those ahead", x.count(6), 3);
        due("undo()", x.undo(), 2);
        due("count(6)", x.count(6), 2);
    }

    private static void reasons() {
        EyeBoard x = CHECKS.picture(0, 1, "X.O", "OO.", "...");
        int[] black = {1, 2, 1, 1, 1, 0, 0, 0, 0};
        int[] white = {1, 0, 1, 1, 1, 0, 0, 0, 0};
        for (int k = 0; k < 9; k++) {
            due("why(" + k + ") for black", x.why(k), black[k]);
        }
        due("pass()", x.pass(), 1);
        for (int k = 0; k < 9; k++) {
            due("why(" + k + ") for white", x.why(k), white[k]);
        }
        for (int k : new int[] {-1, 9, 25, MAX, MIN}) {
            due("why(" + k + ")", x.why(k), EyeBoard.BAD);
        }
        due("why() is no act", x.count(0), 1);
    }

    private static void koByEachLaw() {
        for (int law = 0; law <= 2; law++) {
            EyeBoard x = CHECKS.picture(law, 1, KO);
            due("lay(6)", x.lay(6), 1);
            long before = x.digest();
            due("why(5) by law " + law, x.why(5), 3);
            due("lay(5) by law " + law, x.lay(5), EyeBoard.NO);
            due("digest() behind it", x.digest(), before);
            due("why(6), not free ahead of the law", x.why(6), 1);
            due("lay(3)", x.lay(3), 0);
            due("lay(0)", x.lay(0), 0);
            due("why(5) of another board", x.why(5), 0);
            due("lay(5) of another board", x.lay(5), 1);
            due("why(6) back again by law " + law, x.why(6), 3);
        }
        EyeBoard first = CHECKS.picture(0, 2, ".XO.", "X.XO", ".XO.");
        due("why(5) as the first act", first.why(5), 0);
    }

    /** White sends two and takes one back: the first board comes back with the other colour to move. */
    private static void lawsTellApart() {
        int[] why = {0, 3, 0};
        int[] lay = {1, EyeBoard.NO, 1};
        for (int law = 0; law <= 2; law++) {
            EyeBoard x = CHECKS.picture(law, 2, "X.O.O", "XXXOO", ".....");
            due("lay(1)", x.lay(1), 0);
            due("lay(3)", x.lay(3), 2);
            due("why(2) by law " + law, x.why(2), why[law]);
            due("lay(2) by law " + law, x.lay(2), lay[law]);
            if (law != 1) {
                CHECKS.looksLike("lay(2)", x, "X.O.O", "XXXOO", ".....");
                due("pass()", x.pass(), 1);
                due("why(1) by law " + law, x.why(1), law == 0 ? 0 : 3);
            }
        }
    }

    private static void lawsAndPasses() {
        int[] why = {0, 3, 3};
        for (int law = 0; law <= 2; law++) {
            EyeBoard x = CHECKS.picture(law, 1, KO);
            due("lay(6)", x.lay(6), 1);
            due("pass()", x.pass(), 1);
            due("pass()", x.pass(), 2);
            due("why(5) behind two passes, law " + law, x.why(5), why[law]);
            EyeBoard y = CHECKS.picture(law, 2, KO);
            due("pass()", y.pass(), 1);
            due("lay(6)", y.lay(6), 1);
            due("why(5) behind a pass and a stone, law " + law, y.why(5), 3);
        }
    }

    private static void undoGivesBack() {
        EyeBoard x = CHECKS.picture(0, 1, "XOO.", ".XX.", "....");
        due("undo() without an act", x.undo(), EyeBoard.NO);
        long begin = x.digest();
        due("lay(3)", x.lay(3), 2);
        long one = x.digest();
        due("pass()", x.pass(), 1);
        due("undo()", x.undo(), 1);
        due("digest()", x.digest(), one);
        due("undo()", x.undo(), 0);
        due("digest()", x.digest(), begin);
        CHECKS.looksLike("undo()", x, "XOO.", ".XX.", "....");
        CHECKS.counts("undo()", x, 0, 1, 3, 2, 0, 0, 0, 4, 3, 0);
        due("undo() once more", x.undo(), EyeBoard.NO);
        due("digest()", x.digest(), begin);
        due("lay(3) again", x.lay(3), 2);
        due("digest()", x.digest(), one);
    }

    private static void undoneBoardsAreForgotten() {
        for (int law = 0; law <= 2; law++) {
            EyeBoard x = CHECKS.picture(law, 1, KO);
            due("lay(6)", x.lay(6), 1);
            due("undo()", x.undo(), 0);
            due("why(6) by law " + law, x.why(6), 0);
            due("pass()", x.pass(), 1);
            due("lay(6) by white", x.lay(6), 0);
            due("undo()", x.undo(), 1);
            due("pass()", x.pass(), 2);
            due("lay(6) by law " + law, x.lay(6), 1);
            due("why(5) by law " + law, x.why(5), 3);
        }
    }

    private static void atEachCrossing() {
        EyeBoard x = CHECKS.picture(0, 1, "XO.", ".XO");
        int[] want = {1, 2, 0, 0, 1, 2};
        for (int k = 0; k < 6; k++) {
            due("at(" + k + ")", x.at(k), want[k]);
        }
        for (int k : new int[] {-1, 6, 25, MAX, MIN}) {
            due("at(" + k + ")", x.at(k), EyeBoard.BAD);
        }
    }

    private static void counts() {
        EyeBoard x = CHECKS.picture(2, 2, ".OX.", "....", "X...");
        due("lay(6)", x.lay(6), 0);
        due("pass()", x.pass(), 1);
        due("lay(3)", x.lay(3), 1);
        due("lay(0)", x.lay(0), 0);
        due("pass()", x.pass(), 1);
        due("lay(5)", x.lay(5), 0);
        due("lay(4)", x.lay(4), 1);
        CHECKS.counts("behind seven acts", x, 7, 1, 2, 4, 2, 0, 0, 4, 3, 2);
        for (int what : new int[] {-1, 10, MAX, MIN}) {
            due("count(" + what + ")", x.count(what), EyeBoard.BAD);
        }
    }

    private static void actsByNumber() {
        EyeBoard x = CHECKS.picture(0, 1, "...", "...");
        due("lay(5)", x.lay(5), 0);
        due("pass()", x.pass(), 1);
        due("lay(0)", x.lay(0), 0);
        int[] want = {5, 6, 0};
        for (int i = 0; i < 3; i++) {
            due("act(" + i + ")", x.act(i), want[i]);
        }
        for (int i : new int[] {-1, 3, 120, MAX, MIN}) {
            due("act(" + i + ")", x.act(i), EyeBoard.NONE);
        }
        due("undo()", x.undo(), 2);
        due("act(2) taken back", x.act(2), EyeBoard.NONE);
        due("lay(1)", x.lay(1), 0);
        due("act(2) anew", x.act(2), 1);
    }

    private static long digestBy(long... values) {
        long h = 47;
        for (long v : values) {
            h = 31 * h + v;
        }
        return h;
    }

    private static void digestOfARun() {
        EyeBoard x = CHECKS.picture(1, 1, "O.", "..");
        due("digest()", x.digest(), digestBy(0, 1, 0, 1, 0, 0, 0, 2, 2, 1, 2, 0, 0, 0));
        due("lay(1)", x.lay(1), 0);
        due("pass()", x.pass(), 1);
        due("digest()", x.digest(), digestBy(2, 1, 1, 1, 0, 0, 1, 2, 2, 1, 2, 1, 0, 0, 1, 4));
        due("lay(2)", x.lay(2), 1);
        due("digest()", x.digest(), digestBy(3, 2, 2, 0, 0, 1, 0, 2, 2, 1, 0, 1, 1, 0, 1, 4, 2));
        due("digest() once more", x.digest(), digestBy(3, 2, 2, 0, 0, 1, 0, 2, 2, 1, 0, 1, 1, 0, 1, 4, 2));
    }
}
