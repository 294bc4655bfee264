import java.util.function.Supplier;
import java.util.function.ToIntFunction;

/** 'Refused, changing nothing, the first of': each refused call, what it answers, and that it left all as it was. */
public final class RefusedTest {
    private static final int MAX = Integer.MAX_VALUE, MIN = Integer.MIN_VALUE;
    private static final int[] NO_CROSSINGS = {MIN, -64, -1, 12, 25, 49, 64, 76, MAX};
    private static final String[] KO = {".XO.", "XO.O", ".XO."};
    private static final Checks CHECKS = new Checks("RefusedTest");

    public static void main(String[] args) {
        CHECKS.sentence("Refused, changing nothing, the first of: BAD -2 a number is not as told;",
            RefusedTest::badOfOneNumber);
        CHECKS.sentence("Refused, changing nothing, the first of: BAD -2 a number is not as told; NO -3 as told; "
            + "FULL -4; SPENT -5.", RefusedTest::theFirstOfThem);
        CHECKS.sentence("NO -3 as told;", RefusedTest::noAsTold);
        CHECKS.sentence("FULL -4;", RefusedTest::fullChangesNothing);
        CHECKS.sentence("SPENT -5.", RefusedTest::spentChangesNoBoard);
        CHECKS.end();
    }

    private static void due(String call, long got, long want) {
        CHECKS.due(call, got, want);
    }

    /** 4 by 3, law 1: a fight has found an act, and black has taken at 6. */
    private static EyeBoard inPlay() {
        EyeBoard x = CHECKS.picture(1, 1, KO);
        due("fight(5, 1)", x.fight(5, 1), 1);
        due("lay(6)", x.lay(6), 1);
        return x;
    }

    private static EyeBoard withoutActs() {
        return CHECKS.picture(0, 2, ".XO.", "X..O", ".XO.");
    }

    /** 119 passes, and black's stone at 6 that takes: the 120th act. */
    private static EyeBoard full() {
        EyeBoard x = CHECKS.picture(0, 2, KO);
        for (int i = 1; i <= 119; i++) {
            due("pass()", x.pass(), i);
        }
        due("lay(6)", x.lay(6), 1);
        return x;
    }

    /** All that can be told of a board of twelve crossings, but for what searches tell. */
    private static String allOf(EyeBoard x) {
        StringBuilder told = new StringBuilder();
        told.append(x.digest()).append(' ').append(x.tries()).append(' ').append(x.first());
        for (int k = 0; k < 12; k++) {
            told.append(' ').append(x.at(k)).append(x.why(k)).append(x.group(k, 1)).append(x.region(1, k, 0));
        }
        for (int i = 0; i <= 120; i += 17) {
            told.append(' ').append(x.act(i));
        }
        told.append(' ').append(x.points(1, 0)).append(x.points(2, 0)).append(x.standing(1)).append(x.standing(2));
        // What is taken back must be there still, too.
        told.append(' ').append(x.undo()).append(' ').append(x.digest()).append(' ').append(x.count(1));
        return told.toString();
    }

    private static void refused(String call, Supplier<EyeBoard> state, ToIntFunction<EyeBoard> made, int want) {
        EyeBoard x = state.get();
        due(call, made.applyAsInt(x), want);
        due(call + " left all as it was", allOf(x).equals(allOf(state.get())) ? 1 : 0, 1);
    }

    private static void bad(String call, ToIntFunction<EyeBoard> made) {
        refused(call + " in play", RefusedTest::inPlay, made, EyeBoard.BAD);
        refused(call + " without acts", RefusedTest::withoutActs, made, EyeBoard.BAD);
    }

    private static void badOfOneNumber() {
        for (int k : NO_CROSSINGS) {
            bad("set(" + k + ", 1, 1)", x -> x.set(k, 1, 1));
            bad("lay(" + k + ")", x -> x.lay(k));
            bad("why(" + k + ")", x -> x.why(k));
            bad("at(" + k + ")", x -> x.at(k));
            bad("group(" + k + ", 0)", x -> x.group(k, 0));
            bad("breath(" + k + ", 0)", x -> x.breath(k, 0));
            bad("region(1, " + k + ", 0)", x -> x.region(1, k, 0));
            bad("chase(" + k + ", 1)", x -> x.chase(k, 1));
            bad("fight(" + k + ", 1)", x -> x.fight(k, 1));
        }
        for (int colour : new int[] {MIN, -1, 0, 3, MAX}) {
            bad("set(0, 0, " + colour + ")", x -> x.set(0, 0, colour));
            bad("region(" + colour + ", 0, 0)", x -> x.region(colour, 0, 0));
            bad("standing(" + colour + ")", x -> x.standing(colour));
            bad("points(" + colour + ", 0)", x -> x.points(colour, 0));
            bad("set(0, " + (colour == 0 ? 4 : colour) + ", 1)", x -> x.set(0, colour == 0 ? 4 : colour, 1));
            bad("board(4, 3, " + (colour == 0 ? 4 : colour) + ")", x -> x.board(4, 3, colour == 0 ? 4 : colour));
        }
        for (int many : new int[] {MIN, -1, 21, MAX}) {
            bad("board(" + many + ", 3, 1)", x -> x.board(many, 3, 1));
            bad("board(4, " + many + ", 1)", x -> x.board(4, many, 1));
            bad("group(1, " + many + ")", x -> x.group(1, many));
            bad("region(1, 0, " + many + ")", x -> x.region(1, 0, many));
            bad("chase(1, " + many + ")", x -> x.chase(1, many));
            bad("fight(1, " + many + ")", x -> x.fight(1, many));
            bad("points(1, " + many + ")", x -> x.points(1, many));
            bad("count(" + many + ")", x -> x.count(many));
        }
    }

    private static void noAsTold() {
        refused("set() behind an act", RefusedTest::inPlay, x -> x.set(0, 1, 1), EyeBoard.NO);
        refused("set() without a breath", RefusedTest::withoutActs, x -> x.set(0, 2, 1), EyeBoard.NO);
        refused("lay(), not free", RefusedTest::inPlay, x -> x.lay(6), EyeBoard.NO);
        refused("lay(), no breath", RefusedTest::inPlay, x -> x.lay(0), EyeBoard.NO);
        refused("lay(), the law", RefusedTest::inPlay, x -> x.lay(5), EyeBoard.NO);
        refused("undo(), none", RefusedTest::withoutActs, EyeBoard::undo, EyeBoard.NO);
        refused("group(), free", RefusedTest::inPlay, x -> x.group(0, 4), EyeBoard.NO);
        refused("breath(), free", RefusedTest::inPlay, x -> x.breath(0, 0), EyeBoard.NO);
        refused("region(), a stone of it", RefusedTest::inPlay, x -> x.region(1, 1, 0), EyeBoard.NO);
        refused("chase(), free", RefusedTest::inPlay, x -> x.chase(0, 20), EyeBoard.NO);
        refused("fight(), free", RefusedTest::inPlay, x -> x.fight(0, 6), EyeBoard.NO);
    }

    private static void theFirstOfThem() {
        refused("set(), BAD and an act", RefusedTest::inPlay, x -> x.set(12, 1, 1), EyeBoard.BAD);
        refused("set(), BAD and no breath", RefusedTest::withoutActs, x -> x.set(0, 2, 3), EyeBoard.BAD);
        refused("group(), BAD and free", RefusedTest::inPlay, x -> x.group(0, 5), EyeBoard.BAD);
        refused("region(), BAD and a stone of it", RefusedTest::inPlay, x -> x.region(1, 1, 5), EyeBoard.BAD);
        refused("chase(), BAD and free", RefusedTest::inPlay, x -> x.chase(0, 0), EyeBoard.BAD);
        refused("fight(), BAD and free", RefusedTest::inPlay, x -> x.fight(0, 7), EyeBoard.BAD);
        refused("lay(), BAD and FULL", RefusedTest::full, x -> x.lay(12), EyeBoard.BAD);
        refused("lay(), not free and FULL", RefusedTest::full, x -> x.lay(6), EyeBoard.NO);
        refused("lay(), no breath and FULL", RefusedTest::full, x -> x.lay(0), EyeBoard.NO);
        refused("lay(), the law and FULL", RefusedTest::full, x -> x.lay(5), EyeBoard.NO);
        refused("lay(), FULL alone", RefusedTest::full, x -> x.lay(3), EyeBoard.FULL);
        refused("set(), an act, when full", RefusedTest::full, x -> x.set(3, 1, 1), EyeBoard.NO);
        EyeBoard spent = new EyeBoard();
        due("set(12, 2, 1)", spent.set(12, 2, 1), 1);
        due("fight(), BAD ahead of SPENT", spent.fight(12, 7), EyeBoard.BAD);
        due("fight(), NO ahead of SPENT", spent.fight(0, 6), EyeBoard.NO);
        due("tries() of none", spent.tries(), 0);
        due("fight(), SPENT", spent.fight(12, 6), EyeBoard.SPENT);
    }

    private static void fullChangesNothing() {
        refused("lay()", RefusedTest::full, x -> x.lay(11), EyeBoard.FULL);
        refused("pass()", RefusedTest::full, EyeBoard::pass, EyeBoard.FULL);
        EyeBoard x = full();
        for (int i = 0; i < 9; i++) {
            due("pass()", x.pass(), EyeBoard.FULL);
        }
        due("undo() takes back the 120th", x.undo(), 119);
        due("pass()", x.pass(), 120);
    }

    /** How many tries it made is told by tries(), so that alone is another number then. */
    private static void spentChangesNoBoard() {
        Supplier<EyeBoard> begin = () -> {
            EyeBoard x = CHECKS.picture(2, 1, "O.X..", "X....", "...O.", ".....", ".....", "...O.", ".....");
            due("fight(0, 1)", x.fight(0, 1), 1);
            due("lay(34)", x.lay(34), 0);
            return x;
        };
        EyeBoard x = begin.get();
        long before = x.digest();
        due("chase(5, 20)", x.chase(5, 20), EyeBoard.SPENT);
        due("digest()", x.digest(), before);
        due("fight(13, 6)", x.fight(13, 6), EyeBoard.SPENT);
        due("digest()", x.digest(), before);
        due("first() stays", x.first(), 1);
        due("tries()", x.tries(), 600);
        EyeBoard y = begin.get();
        for (int k = 0; k < 35; k++) {
            due("why(" + k + ")", x.why(k), y.why(k));
        }
        due("undo()", x.undo(), y.undo());
        due("digest()", x.digest(), y.digest());
    }
}
