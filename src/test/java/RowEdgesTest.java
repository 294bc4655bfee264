/** lay(), pass(), why(), undo() and the laws: each sentence of the document that names a boundary case. */
public final class RowEdgesTest {
    private static final int MAX = Integer.MAX_VALUE, MIN = Integer.MIN_VALUE;
    /** Black takes at 6; white would take back at 5. */
    private static final String[] KO = {".XO.", "XO.O", ".XO."};
    /** White 1, black 3 takes two, white 2 takes one: the first board is back, with black to move instead of white. */
    private static final String[] TWO_FOR_ONE = {"X.O.O", "XXXOO", "....."};
    private static final Checks CHECKS = new Checks("RowEdgesTest");

    public static void main(String[] args) {
        terms();
        laws();
        promises();
        CHECKS.end();
    }

    private static void terms() {
        CHECKS.sentence("THE ROW of boards: the first one, and behind each ACT (a stone laid, a pass) the one then;",
            RowEdgesTest::firstBoardAndPassesAreOfTheRow);
        CHECKS.sentence("with each goes who is TO MOVE.", RowEdgesTest::toMoveGoesWithTheBoard);
        CHECKS.sentence("TO LAY a stone of a colour at a free CROSSING: it stands there;", RowEdgesTest::stoneStands);
        CHECKS.sentence("of the other colour's GROUPS those that have no BREATH then are TAKEN;",
            RowEdgesTest::groupsWithoutABreath);
        CHECKS.sentence("the stone's own GROUP must have a BREATH then.", RowEdgesTest::ownGroupBehindTaking);
    }

    private static void laws() {
        CHECKS.sentence("By LAW 0 the board must not be then as the one ahead of the latest of THE ROW was;",
            RowEdgesTest::lawZero);
        CHECKS.sentence("by LAW 1 as any one of THE ROW;", RowEdgesTest::lawOne);
        CHECKS.sentence("by LAW 2 as any of THE ROW with which the same colour was TO MOVE as would be then.",
            RowEdgesTest::lawTwo);
        CHECKS.sentence("(A pass is always allowed.)", RowEdgesTest::passIsAllowed);
        CHECKS.sentence("REASONS why a stone can't be laid, the first of: 1 the CROSSING is not free; "
            + "2 its GROUP would have no BREATH; 3 THE LAW.", RowEdgesTest::firstReason);
    }

    private static void promises() {
        CHECKS.sentence("The one TO MOVE lays a stone: how many are TAKEN. BAD;", RowEdgesTest::noneToAllTaken);
        CHECKS.sentence("NO: it can't be laid;", RowEdgesTest::layRefused);
        CHECKS.sentence("FULL: 120 ACTS.", RowEdgesTest::layFull);
        CHECKS.sentence("He passes: how many passes there are, one behind the other, now.", RowEdgesTest::passesNow);
        CHECKS.sentence("one behind the other, now. FULL.", RowEdgesTest::passFull);
        CHECKS.sentence("The REASON why the one TO MOVE can't lay at a CROSSING; 0: he can. BAD.",
            RowEdgesTest::whyAtTheEnds);
        CHECKS.sentence("The latest ACT is taken back: how many are left.", RowEdgesTest::undoAll);
        CHECKS.sentence("how many are left. NO: there is none.", RowEdgesTest::undoNone);
    }

    private static void due(String call, long got, long want) {
        CHECKS.due(call, got, want);
    }

    private static void passTimes(EyeBoard x, int times) {
        int before = x.count(6);
        for (int i = 1; i <= times; i++) {
            due("pass()", x.pass(), before + i);
        }
    }

    private static void firstBoardAndPassesAreOfTheRow() {
        // The first board is the only one that comes back here, as the one ahead of the latest.
        for (int law = 0; law <= 2; law++) {
            EyeBoard x = CHECKS.picture(law, 1, KO);
            due("lay(6)", x.lay(6), 1);
            due("why(5), the first board, law " + law, x.why(5), 3);
        }
        // Behind the two passes the one ahead of the latest is the same as the latest, for law 0.
        EyeBoard passed = CHECKS.picture(0, 1, KO);
        due("lay(6)", passed.lay(6), 1);
        passTimes(passed, 2);
        due("why(5), the passes' boards are of the row", passed.why(5), 0);
        EyeBoard ahead = CHECKS.picture(0, 2, KO);
        passTimes(ahead, 1);
        due("lay(6)", ahead.lay(6), 1);
        due("why(5), the board behind the pass", ahead.why(5), 3);
        // What was set ahead of the first act is no board of the row.
        EyeBoard set = CHECKS.picture(1, 1, "X.", "..");
        due("set(0, 0, 1)", set.set(0, 0, 1), 1);
        due("why(0), set() makes no board more", set.why(0), 0);
        due("lay(0)", set.lay(0), 0);
    }

    private static void toMoveGoesWithTheBoard() {
        for (int opener = 1; opener <= 2; opener++) {
            EyeBoard x = CHECKS.picture(0, opener, "...", "...");
            due("to move first", x.count(1), opener);
            due("lay(0)", x.lay(0), 0);
            due("to move behind a stone", x.count(1), 3 - opener);
            passTimes(x, 1);
            due("to move behind a pass", x.count(1), opener);
            due("undo()", x.undo(), 1);
            due("undo()", x.undo(), 0);
            due("to move when all is taken back", x.count(1), opener);
            passTimes(x, 120);
            due("to move behind 120", x.count(1), opener);
            due("undo()", x.undo(), 119);
            due("to move behind 119", x.count(1), 3 - opener);
        }
    }

    private static void stoneStands() {
        EyeBoard x = new EyeBoard();
        due("board(7, 7, 0)", x.board(7, 7, 0), 0);
        due("lay(48) by black", x.lay(48), 0);
        due("at(48)", x.at(48), 1);
        due("lay(0) by white", x.lay(0), 0);
        due("at(0)", x.at(0), 2);
        due("why(48), not free", x.why(48), 1);
        due("black stones", x.count(2), 1);
        due("white stones", x.count(3), 1);
    }

    private static void groupsWithoutABreath() {
        // One of the two white groups beside the stone has a breath left.
        EyeBoard one = CHECKS.picture(0, 1, "O.O.", "X.X.", "....");
        due("lay(1) takes the one without a breath", one.lay(1), 1);
        CHECKS.looksLike("lay(1)", one, ".XO.", "X.X.", "....");
        // A group that has a breath at the other end stays.
        EyeBoard end = CHECKS.picture(0, 1, ".OOO.", "XXXX.", ".....");
        due("lay(0) takes none", end.lay(0), 0);
        due("at(3) stays", end.at(3), 2);
        // The taking colour's groups are not taken, even where they have one breath left.
        EyeBoard own = CHECKS.picture(0, 1, "XO.", ".O.", "...");
        due("lay(3) leaves one breath", own.lay(3), 0);
        due("group(0, 1)", own.group(0, 1), 1);
        due("lay(6) by white takes both", own.lay(6), 2);
        EyeBoard four = CHECKS.picture(0, 2, "..O..", ".OXO.", "OX.XO", ".OXO.", "..O..");
        due("lay(12) takes four groups", four.lay(12), 4);
        CHECKS.looksLike("lay(12)", four, "..O..", ".O.O.", "O.O.O", ".O.O.", "..O..");
    }

    private static void ownGroupBehindTaking() {
        EyeBoard alone = CHECKS.picture(0, 1, ".O.", "O..", "...");
        due("why(0), a stone without a breath", alone.why(0), 2);
        due("lay(0), a stone without a breath", alone.lay(0), EyeBoard.NO);
        EyeBoard group = CHECKS.picture(0, 1, "X.O", "OO.", "...");
        due("why(1), a group without a breath", group.why(1), 2);
        EyeBoard last = CHECKS.picture(0, 1, "XX", "X.");
        due("why(3), the last free crossing", last.why(3), 2);
        EyeBoard taking = CHECKS.picture(0, 1, ".OX", "OX.", "X..");
        due("why(0), it takes and breathes then", taking.why(0), 0);
        due("lay(0), it takes and breathes then", taking.lay(0), 2);
        EyeBoard joined = CHECKS.picture(0, 1, "X.O", ".OO", "...");
        due("why(1), its group has one breath then", joined.why(1), 0);
        EyeBoard both = CHECKS.picture(0, 1, "XO", "X.");
        due("why(3), the last free crossing, but it takes", both.why(3), 0);
        due("lay(3)", both.lay(3), 1);
    }

    private static void lawZero() {
        EyeBoard x = CHECKS.picture(0, 1, KO);
        due("why(6), no board is ahead of the first one", x.why(6), 0);
        due("lay(6)", x.lay(6), 1);
        due("why(5), the one ahead", x.why(5), 3);
        passTimes(x, 2);
        due("why(5), older ones don't count", x.why(5), 0);
        due("lay(5)", x.lay(5), 1);
        due("why(6), the one ahead again", x.why(6), 3);
        EyeBoard far = CHECKS.picture(0, 2, TWO_FOR_ONE);
        due("lay(1)", far.lay(1), 0);
        due("lay(3)", far.lay(3), 2);
        due("lay(2), the first board comes back", far.lay(2), 1);
        CHECKS.looksLike("lay(2)", far, TWO_FOR_ONE);
        passTimes(far, 1);
        due("lay(1) anew, with the same colour to move", far.lay(1), 0);
    }

    private static void lawOne() {
        EyeBoard x = CHECKS.picture(1, 2, TWO_FOR_ONE);
        due("lay(1)", x.lay(1), 0);
        due("lay(3)", x.lay(3), 2);
        due("why(2), the first board, whoever was to move", x.why(2), 3);
        // The first board counts as long as the row may become.
        EyeBoard y = CHECKS.picture(1, 1, KO);
        due("lay(6)", y.lay(6), 1);
        passTimes(y, 118);
        due("why(5) behind 119 acts", y.why(5), 3);
        due("lay(5) behind 119 acts", y.lay(5), EyeBoard.NO);
        // One in the middle of the row counts, too.
        EyeBoard z = CHECKS.picture(1, 2, KO);
        due("lay(3) by white", z.lay(3), 0);
        due("lay(6) by black", z.lay(6), 1);
        passTimes(z, 4);
        due("why(5), the board behind the first act", z.why(5), 3);
        EyeBoard other = CHECKS.picture(1, 1, KO);
        due("lay(6)", other.lay(6), 1);
        due("lay(3)", other.lay(3), 0);
        due("lay(0)", other.lay(0), 0);
        due("why(5), another board", other.why(5), 0);
        // A board that was taken back is no more of the row.
        EyeBoard undone = CHECKS.picture(1, 1, "..", "..");
        due("lay(0)", undone.lay(0), 0);
        due("undo()", undone.undo(), 0);
        due("why(0) behind undo()", undone.why(0), 0);
    }

    private static void lawTwo() {
        EyeBoard x = CHECKS.picture(2, 2, TWO_FOR_ONE);
        due("lay(1)", x.lay(1), 0);
        due("lay(3)", x.lay(3), 2);
        due("why(2), the first board, but black would be to move", x.why(2), 0);
        due("lay(2)", x.lay(2), 1);
        CHECKS.looksLike("lay(2)", x, TWO_FOR_ONE);
        passTimes(x, 1);
        due("why(1), the second board with black to move again", x.why(1), 3);
        EyeBoard y = CHECKS.picture(2, 1, KO);
        due("lay(6)", y.lay(6), 1);
        passTimes(y, 118);
        due("why(5), the first board with black to move, behind 119 acts", y.why(5), 3);
        EyeBoard z = CHECKS.picture(2, 2, KO);
        passTimes(z, 1);
        due("lay(6)", z.lay(6), 1);
        due("why(5), the board behind the pass with black to move", z.why(5), 3);
    }

    private static void passIsAllowed() {
        for (int law = 0; law <= 2; law++) {
            for (int opener = 1; opener <= 2; opener++) {
                EyeBoard x = CHECKS.picture(law, opener, KO);
                passTimes(x, 120);
                due("acts", x.count(0), 120);
            }
            // All that black may do is pass: his only free crossing would take his last breath.
            EyeBoard last = CHECKS.picture(law, 1, "XX", "X.");
            due("why(3)", last.why(3), 2);
            due("pass()", last.pass(), 1);
            EyeBoard free = CHECKS.picture(law, 1, "..", "..");
            due("pass() on a free board", free.pass(), 1);
        }
    }

    private static void firstReason() {
        EyeBoard x = CHECKS.picture(1, 1, KO);
        due("why(6), it can be laid", x.why(6), 0);
        due("lay(6)", x.lay(6), 1);
        due("why(6), not free (1)", x.why(6), 1);
        due("why(0), no breath (2)", x.why(0), 2);
        due("why(5), the law (3)", x.why(5), 3);
        due("why(3), none (0)", x.why(3), 0);
        // Neither colour's stone would have a breath at 0, 1 or 2, but these are not free at first.
        EyeBoard held = CHECKS.picture(0, 2, "XX", "X.");
        for (int k = 0; k < 3; k++) {
            due("why(" + k + "), not free", held.why(k), 1);
        }
    }

    private static void noneToAllTaken() {
        EyeBoard all = new EyeBoard();
        due("board(7, 7, 0)", all.board(7, 7, 0), 0);
        for (int k = 0; k < 48; k++) {
            due("set(" + k + ", 2, 1)", all.set(k, 2, 1), 1);
        }
        for (int k : new int[] {MIN, -1, 49, 64, 112, MAX}) {
            due("lay(" + k + ")", all.lay(k), EyeBoard.BAD);
        }
        due("lay(48) takes all", all.lay(48), 48);
        due("white stones then", all.count(3), 0);
        due("lay(0) takes none", all.lay(0), 0);
        EyeBoard small = CHECKS.picture(0, 1, "..", "..");
        for (int k : new int[] {MIN, -1, 4, 25, 64, 67, MAX}) {
            due("lay(" + k + ") of 2 by 2", small.lay(k), EyeBoard.BAD);
        }
        due("no act", small.count(0), 0);
        due("lay(3) of 2 by 2", small.lay(3), 0);
        due("lay(0) of 2 by 2", small.lay(0), 0);
        due("lay(1) of 2 by 2", small.lay(1), 0);
        due("lay(2) by white, the last free crossing, takes two", small.lay(2), 2);
    }

    private static void layRefused() {
        for (int reason = 1; reason <= 3; reason++) {
            EyeBoard x = CHECKS.picture(0, 1, KO);
            due("lay(6)", x.lay(6), 1);
            int k = reason == 1 ? 6 : reason == 2 ? 0 : 5;
            due("why(" + k + ")", x.why(k), reason);
            long before = x.digest();
            due("lay(" + k + ") for reason " + reason, x.lay(k), EyeBoard.NO);
            due("digest()", x.digest(), before);
        }
        EyeBoard black = CHECKS.picture(0, 1, ".O", "O.");
        due("lay(0) for black", black.lay(0), EyeBoard.NO);
        due("pass()", black.pass(), 1);
        due("lay(0) for white", black.lay(0), 0);
    }

    private static void layFull() {
        EyeBoard x = CHECKS.picture(0, 1, "...", "...");
        passTimes(x, 119);
        due("lay(5) as the 120th", x.lay(5), 0);
        due("lay(0) as the 121st", x.lay(0), EyeBoard.FULL);
        due("why(0), he can", x.why(0), 0);
        due("acts", x.count(0), 120);
        due("at(0)", x.at(0), 0);
        due("to move", x.count(1), 1);
        due("undo()", x.undo(), 119);
        due("lay(0) as the 120th", x.lay(0), 0);
        due("board()", x.board(3, 2, 0), 120);
        due("lay(0) of a new board", x.lay(0), 0);
    }

    private static void passesNow() {
        EyeBoard x = CHECKS.picture(0, 1, "...", "...");
        due("none yet", x.count(6), 0);
        passTimes(x, 3);
        due("lay(0)", x.lay(0), 0);
        due("none behind a stone", x.count(6), 0);
        due("pass() behind a stone", x.pass(), 1);
        due("undo()", x.undo(), 4);
        due("undo()", x.undo(), 3);
        due("pass() behind undo()", x.pass(), 4);
        due("board()", x.board(3, 2, 0), 4);
        due("pass() of a new board", x.pass(), 1);
        due("undo()", x.undo(), 0);
        due("none again", x.count(6), 0);
        passTimes(x, 120);
        due("all 120", x.count(6), 120);
    }

    private static void passFull() {
        EyeBoard x = CHECKS.picture(0, 1, "...", "...");
        due("lay(0)", x.lay(0), 0);
        passTimes(x, 119);
        due("pass() as the 121st", x.pass(), EyeBoard.FULL);
        due("acts", x.count(0), 120);
        due("passes", x.count(6), 119);
        due("to move", x.count(1), 1);
        due("undo()", x.undo(), 119);
        due("pass() as the 120th", x.pass(), 119);
        due("pass() as the 121st", x.pass(), EyeBoard.FULL);
    }

    private static void whyAtTheEnds() {
        EyeBoard x = CHECKS.picture(0, 1, "...", ".X.", "...");
        due("why(0)", x.why(0), 0);
        due("why(4)", x.why(4), 1);
        due("why(8)", x.why(8), 0);
        for (int k : new int[] {MIN, -64, -1, 9, 10, 25, 49, 64, 68, MAX}) {
            due("why(" + k + ")", x.why(k), EyeBoard.BAD);
        }
        EyeBoard turn = CHECKS.picture(0, 1, ".O", "O.");
        due("why(0) for black", turn.why(0), 2);
        passTimes(turn, 1);
        due("why(0) for white", turn.why(0), 0);
        due("why() is no act", turn.count(0), 1);
        passTimes(x, 120);
        due("why(8), FULL is no reason", x.why(8), 0);
        due("why(4), full", x.why(4), 1);
        due("why(9), full", x.why(9), EyeBoard.BAD);
    }

    private static void undoAll() {
        EyeBoard x = CHECKS.picture(0, 1, "XO", "..");
        long begin = x.digest();
        due("lay(3) takes", x.lay(3), 1);
        long one = x.digest();
        passTimes(x, 119);
        for (int left = 119; left >= 1; left--) {
            due("undo()", x.undo(), left);
        }
        due("digest() behind the first act", x.digest(), one);
        due("taken then", x.count(5), 1);
        due("undo() of the first act", x.undo(), 0);
        due("digest() of the beginning", x.digest(), begin);
        due("taken none", x.count(5), 0);
        CHECKS.looksLike("undo()", x, "XO", "..");
    }

    private static void undoNone() {
        EyeBoard x = new EyeBoard();
        due("undo() of a new object", x.undo(), EyeBoard.NO);
        due("set(0, 1, 2)", x.set(0, 1, 2), 1);
        due("undo(), set() is no act", x.undo(), EyeBoard.NO);
        due("at(0) stays", x.at(0), 1);
        due("to move stays", x.count(1), 2);
        due("lay(1)", x.lay(1), 0);
        due("undo()", x.undo(), 0);
        due("undo() once more", x.undo(), EyeBoard.NO);
        due("lay(1)", x.lay(1), 0);
        due("board()", x.board(5, 5, 0), 1);
        due("undo() behind board()", x.undo(), EyeBoard.NO);
    }
}
