/** Promises 13 to 16: chases, fights, and their tries, which are counted by hand. */
public final class SearchTest {
    private static final int MAX = Integer.MAX_VALUE, MIN = Integer.MIN_VALUE;
    private static final String[] KO = {".XO.", "XO.O", ".XO."};
    private static final Checks CHECKS = new Checks("SearchTest");

    public static void main(String[] args) {
        chaseOfOneBreath();
        chaseOfTwoBreaths();
        chaseWithoutAnswer();
        chaseAnsweredByTaking();
        chaseHasItsOwnBoards();
        ladder();
        chaseSpent();
        chaseRefused();
        fightInOneAct();
        fightOfTheOtherColour();
        fightOfTheOwnColour();
        fightByTheLaw();
        fightSpent();
        fightBehindTheLastAct();
        fightRefused();
        CHECKS.end();
    }

    private static void due(String call, long got, long want) {
        CHECKS.due(call, got, want);
    }

    private static void chaseOfOneBreath() {
        for (int toMove = 1; toMove <= 2; toMove++) {
            EyeBoard x = CHECKS.picture(0, toMove, ".X.", "XO.", ".X.");
            long before = x.digest();
            CHECKS.chaseIs(x, 4, 1, 1, 1);
            CHECKS.chaseIs(x, 4, 20, 1, 1);
            due("digest() behind a chase", x.digest(), before);
        }
        EyeBoard corner = CHECKS.picture(0, 1, "OX", "..");
        CHECKS.chaseIs(corner, 0, 1, 1, 1);
    }

    private static void chaseOfTwoBreaths() {
        EyeBoard x = CHECKS.picture(0, 1, "X..", "...", "...");
        CHECKS.chaseIs(x, 0, 1, 0, 0);
        // White 1, black 3; white 3, black 1: each time the answer has two breaths, and one stone is left.
        CHECKS.chaseIs(x, 0, 2, 0, 4);
        // White 1, black 3, white 4, black 6, white 7.
        CHECKS.chaseIs(x, 0, 3, 1, 5);
        CHECKS.chaseIs(x, 0, 20, 1, 5);
        EyeBoard edge = CHECKS.picture(0, 1, ".X.", "...", "...");
        CHECKS.chaseIs(edge, 1, 20, 0, 0);
        EyeBoard near = CHECKS.picture(0, 1, "X.O.", ".OO.", "....");
        // White 1, black 4, white 8.
        CHECKS.chaseIs(near, 0, 2, 1, 3);
    }

    private static void chaseWithoutAnswer() {
        EyeBoard x = CHECKS.picture(0, 2, "X.O.", ".OO.", "O...");
        CHECKS.chaseIs(x, 0, 1, 0, 0);
        CHECKS.chaseIs(x, 0, 2, 1, 1);
    }

    /** Black's stone at 5: white 1 has one breath, 0, where black takes it. */
    private static void chaseAnsweredByTaking() {
        EyeBoard x = CHECKS.picture(0, 1, ".OX.", "OX.O", "..O.");
        // White 6: black 9, white 8; black 0 takes. White 9: black 6, white 3; black 0 takes.
        CHECKS.chaseIs(x, 5, 2, 0, 8);
        EyeBoard safe = CHECKS.picture(0, 1, "....", ".OX.", "OX.O", "..O.");
        // A line further down nothing can be taken: white 10, black 13, white 12.
        CHECKS.chaseIs(safe, 9, 2, 1, 3);
    }

    /** The game's law refuses white at 5, the chase's does not: it knows no board ahead of the one at hand. */
    private static void chaseHasItsOwnBoards() {
        for (int law = 0; law <= 2; law++) {
            EyeBoard x = CHECKS.picture(law, 1, KO);
            due("lay(6)", x.lay(6), 1);
            due("why(5)", x.why(5), 3);
            CHECKS.chaseIs(x, 6, 1, 1, 1);
            due("why(5) still", x.why(5), 3);
        }
    }

    private static void ladder() {
        EyeBoard x = CHECKS.picture(0, 1,
            ".......", ".XO....", ".OX....", ".O.....", ".......", ".......", ".......");
        // White 17, black 23, and on to the corner: white 30, 25, 38, 33, 46, 41, and 48 takes.
        int least = 0;
        for (int n = 20; n >= 1; n--) {
            int told = x.chase(16, n);
            due("chase(16, " + n + ") is 0 or 1", told == 0 || told == 1 ? 1 : 0, 1);
            least = told == 1 ? n : least;
        }
        due("the fewest stones of the ladder", least, 8);
        EyeBoard broken = CHECKS.picture(0, 1,
            ".......", ".XO....", ".OX....", ".O.....", ".....X.", ".......", ".......");
        due("chase(16, 20) with a stone ahead", broken.chase(16, 20), 0);
    }

    private static void chaseSpent() {
        EyeBoard x = CHECKS.picture(0, 1, ".....X", "......", "...O..", "......", "X.....", ".O....", ".X....");
        long before = x.digest();
        CHECKS.chaseIs(x, 37, 20, EyeBoard.SPENT, 600);
        due("digest() behind SPENT", x.digest(), before);
        due("first() behind a chase", x.first(), EyeBoard.NONE);
        CHECKS.chaseIs(x, 37, 1, 0, 0);
    }

    private static void chaseRefused() {
        EyeBoard x = CHECKS.picture(0, 1, "OX", "..");
        CHECKS.chaseIs(x, 0, 1, 1, 1);
        int[][] bad = {{-1, 1}, {4, 1}, {0, 0}, {0, 21}, {0, -1}, {MAX, 1}, {0, MAX}, {MIN, MIN}, {2, 0}, {2, 21}};
        for (int[] b : bad) {
            due("chase(" + b[0] + ", " + b[1] + ")", x.chase(b[0], b[1]), EyeBoard.BAD);
            due("tries() stays", x.tries(), 1);
        }
        due("chase(2, 1), free", x.chase(2, 1), EyeBoard.NO);
        due("tries() stays", x.tries(), 1);
    }

    private static void fightInOneAct() {
        EyeBoard x = CHECKS.picture(0, 2, "XO.", "...");
        // White 2 does nothing; white 3 takes.
        CHECKS.fightIs(x, 0, 1, 1, 2);
        due("first()", x.first(), 3);
        // White's own stone: his first act leaves it there.
        CHECKS.fightIs(x, 1, 1, 0, 1);
        due("first() stays", x.first(), 3);
        due("count(0) behind fights", x.count(0), 0);
    }

    private static void fightOfTheOtherColour() {
        EyeBoard x = CHECKS.picture(0, 2, ".....", "..O..", ".OXO.", ".....", ".....");
        due("fight(12, 1)", x.fight(12, 1), 1);
        due("first()", x.first(), 17);
        // White 0 to 6, 8 to 10, 14 to 16: behind each of these 13 black's first answer decides. White 17 takes.
        CHECKS.fightIs(x, 12, 2, 1, 2 * 13 + 1);
        EyeBoard y = CHECKS.picture(0, 1, "XO.", ".O.");
        // Black 2, black 5, a pass: none takes.
        CHECKS.fightIs(y, 1, 1, 0, 3);
        due("first()", y.first(), EyeBoard.NONE);
    }

    /** Whatever black does, white takes at 3. */
    private static void fightOfTheOwnColour() {
        EyeBoard x = CHECKS.picture(0, 1, "XO.", ".O.");
        CHECKS.fightIs(x, 0, 1, 0, 1);
        // Black 2, white 3; black 5, white 2, white 3; a pass, white 2, white 3.
        CHECKS.fightIs(x, 0, 2, 1, 8);
        due("first() is of the other colour's stones alone", x.first(), EyeBoard.NONE);
    }

    private static void fightByTheLaw() {
        for (int law = 0; law <= 2; law++) {
            EyeBoard x = CHECKS.picture(law, 1, KO);
            due("lay(6)", x.lay(6), 1);
            // White 3, white 11, a pass: 0 and 8 would have no breath, 5 is refused by the law.
            CHECKS.fightIs(x, 6, 1, 0, 3);
            due("undo()", x.undo(), 0);
            due("fight(5, 1)", x.fight(5, 1), 1);
            due("first()", x.first(), 6);
        }
    }

    private static void fightSpent() {
        EyeBoard x = CHECKS.picture(0, 1, ".....", ".....", "..O..", ".....", ".....");
        long before = x.digest();
        CHECKS.fightIs(x, 12, 6, EyeBoard.SPENT, 600);
        due("digest() behind SPENT", x.digest(), before);
        due("first() behind SPENT", x.first(), EyeBoard.NONE);
        // 24 stones and a pass in each of two acts: black's each, white's first alone.
        CHECKS.fightIs(x, 12, 2, 0, 50);
    }

    private static void fightBehindTheLastAct() {
        EyeBoard x = CHECKS.picture(0, 1, "XO.", ".O.");
        for (int i = 1; i <= 120; i++) {
            due("pass()", x.pass(), i);
        }
        CHECKS.fightIs(x, 0, 2, 1, 8);
        due("undo()", x.undo(), 119);
        CHECKS.fightIs(x, 0, 1, 1, 2);
        due("first()", x.first(), 3);
    }

    private static void fightRefused() {
        EyeBoard x = CHECKS.picture(0, 2, "XO.", "...");
        CHECKS.fightIs(x, 0, 1, 1, 2);
        int[][] bad = {{-1, 1}, {6, 1}, {0, 0}, {0, 7}, {0, -1}, {MAX, 1}, {0, MAX}, {MIN, MIN}, {2, 0}, {2, 7}};
        for (int[] b : bad) {
            due("fight(" + b[0] + ", " + b[1] + ")", x.fight(b[0], b[1]), EyeBoard.BAD);
            due("tries() stays", x.tries(), 2);
        }
        due("fight(2, 1), free", x.fight(2, 1), EyeBoard.NO);
        due("tries() stays", x.tries(), 2);
        due("first() stays", x.first(), 3);
    }
}
