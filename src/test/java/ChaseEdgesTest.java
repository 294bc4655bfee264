/** chase() and the tries it makes: each sentence of the document that names a boundary case. */
public final class ChaseEdgesTest {
    private static final int MAX = Integer.MAX_VALUE, MIN = Integer.MIN_VALUE;
    private static final String[] KO = {".XO.", "XO.O", ".XO."};
    private static final Checks CHECKS = new Checks("ChaseEdgesTest");

    public static void main(String[] args) {
        whenItIsCaught();
        answers();
        tries();
        CHECKS.sentence("The CHASE of the GROUP at a CROSSING in n (1 .. 20) stones: 1 CAUGHT, 0 not.",
            ChaseEdgesTest::oneToTwentyStones);
        CHECKS.sentence("BAD; NO: it is free; SPENT. ## Promise 14", ChaseEdgesTest::refused);
        CHECKS.end();
    }

    private static void whenItIsCaught() {
        CHECKS.sentence("A CHASE of the GROUP at a CROSSING by the other colour, which lays first:",
            ChaseEdgesTest::chasingColourLaysFirst);
        CHECKS.sentence("if it has one BREATH, and the chasing colour may lay there (n is 1 or more);",
            ChaseEdgesTest::oneBreath);
        CHECKS.sentence("or if it has two, n is 2 or more,", ChaseEdgesTest::twoBreaths);
        CHECKS.sentence("and a stone at one of these may be laid,", ChaseEdgesTest::whereNoneMayBeLaid);
        CHECKS.sentence("behind which the GROUP has just one BREATH and the other colour's every answer fails:",
            ChaseEdgesTest::everyAnswer);
    }

    private static void answers() {
        CHECKS.sentence("its answers are a stone at that BREATH,", ChaseEdgesTest::answerAtTheBreath);
        CHECKS.sentence("and stones that take a GROUP of the chasing colour that touches the chased one and has one "
            + "BREATH (which then has it):", ChaseEdgesTest::answersThatTake);
        CHECKS.sentence("those that may be laid, each CROSSING once;", ChaseEdgesTest::answersOnce);
        CHECKS.sentence("an answer fails if behind it the chased GROUP (then) is CAUGHT in n - 1 stones;",
            ChaseEdgesTest::oneStoneLess);
        CHECKS.sentence("without any answer it is CAUGHT, too (the next stone takes it).",
            ChaseEdgesTest::withoutAnyAnswer);
        CHECKS.sentence("LAW 0 counts, of the boards of the chase alone, the one at hand being the first.",
            ChaseEdgesTest::lawOfTheChase);
    }

    private static void tries() {
        CHECKS.sentence("TRIES: each stone that is laid, and each pass, in a CHASE or FIGHT, counts one;",
            ChaseEdgesTest::eachStoneCounts);
        CHECKS.sentence("both are SPENT as a further one would be above 600.", ChaseEdgesTest::sixHundredTries);
        CHECKS.sentence("(the CHASE: its BREATHS by numbers; answers: the BREATH, then what takes GROUPS, "
            + "by CROSSINGS), and stop as soon as it is decided.", ChaseEdgesTest::orderOfTries);
    }

    private static void due(String call, long got, long want) {
        CHECKS.due(call, got, want);
    }

    private static void chaseOf(int k, int n, int told, int tries, String... lines) {
        CHECKS.chaseIs(CHECKS.picture(0, 1, lines), k, n, told, tries);
    }

    private static void chasingColourLaysFirst() {
        for (int toMove = 1; toMove <= 2; toMove++) {
            CHECKS.chaseIs(CHECKS.picture(0, toMove, ".O", "OO"), 1, 1, 1, 1);
            CHECKS.chaseIs(CHECKS.picture(0, toMove, "XX", "X."), 1, 1, 1, 1);
            // It has two breaths, and it would have three if it laid first.
            CHECKS.chaseIs(CHECKS.picture(0, toMove, "..", "..", ".O"), 5, 2, 1, 3);
        }
    }

    private static void oneBreath() {
        EyeBoard x = CHECKS.picture(0, 1, "XO", "..");
        for (int n = 1; n <= 20; n++) {
            CHECKS.chaseIs(x, 0, n, 1, 1);
            CHECKS.chaseIs(x, 1, n, 1, 1);
        }
        EyeBoard all = new EyeBoard();
        due("board(7, 7, 0)", all.board(7, 7, 0), 0);
        for (int k = 1; k < 49; k++) {
            due("set(" + k + ", 1, 1)", all.set(k, 1, 1), 1);
        }
        CHECKS.chaseIs(all, 48, 1, 1, 1);
    }

    private static void twoBreaths() {
        // Black 3, white 4, black 2.
        chaseOf(5, 1, 0, 0, "..", "..", ".O");
        chaseOf(5, 2, 1, 3, "..", "..", ".O");
        chaseOf(5, 20, 1, 3, "..", "..", ".O");
        // Three breaths, and four: it is not chased at all.
        for (int n = 1; n <= 20; n++) {
            chaseOf(3, n, 0, 0, "..", ".O", "..");
            chaseOf(4, n, 0, 0, "...", ".X.", "...");
        }
    }

    /** White may not lay in either of black's eyes. */
    private static void whereNoneMayBeLaid() {
        chaseOf(1, 20, 0, 0, ".X.X", "XXXX");
        // At 0 he may not, at 2 he may; black can't answer at 0, but takes three stones at 3.
        due("why(0) for white", CHECKS.picture(0, 2, ".X..", "XXOO").why(0), 2);
        due("why(2) for white", CHECKS.picture(0, 2, ".X..", "XXOO").why(2), 0);
        chaseOf(1, 20, 0, 2, ".X..", "XXOO");
    }

    /** The stone at the breath fails, the one that takes does not: black 0, white 3, black 1; white 1 takes 0. */
    private static void everyAnswer() {
        chaseOf(2, 2, 0, 8, "..", "O.");
        chaseOf(2, 20, 0, 8, "..", "O.");
        // One fails, and there is no other one: black 1, white 4, black 5.
        chaseOf(0, 2, 1, 3, "O...", "..OX");
    }

    private static void answerAtTheBreath() {
        // White 1, black 3, and it has two breaths then; white 3, black 1, and it has two breaths then.
        chaseOf(0, 2, 0, 4, "X..", "...", "...");
        // White 1, black 3, white 4, black 6, white 7.
        chaseOf(0, 3, 1, 5, "X..", "...", "...");
    }

    private static void answersThatTake() {
        // Black 0 has one breath, touches white 2, and is taken at 1.
        chaseOf(2, 2, 0, 8, "..", "O.");
        // Black 7 has one breath, too, but does not touch white 0.
        chaseOf(0, 2, 1, 3, "O...", "..OX");
        // Black 2 touches white 4, but has two breaths.
        chaseOf(4, 2, 1, 3, ".X", "..", "O.");
        // A black group that was there ahead of the chase is taken, too: black 5, white 4.
        chaseOf(1, 3, 0, 8, ".O.X", ".XO.");
    }

    private static void answersOnce() {
        // Black 1, white 3 is at the breath and takes black 1, but it counts once; black 1 takes three.
        chaseOf(0, 2, 1, 3, "O.", "O.");
        // White 2; black 5 would have no breath, so it is no answer.
        chaseOf(4, 2, 1, 1, "O.", ".O", "X.");
    }

    private static void oneStoneLess() {
        // Black 0, white 3 takes two; black 3, white 0 takes two: one stone is left for two breaths.
        chaseOf(2, 2, 0, 4, ".X", "O.");
        // Black 0, white 3 takes two, black 0, white 1 takes it, black 0.
        chaseOf(2, 3, 1, 5, ".X", "O.");
        String[] ladder = {"...XX.", ".X.O..", "XO.X.X", "..XX..", "..XO..", "......", ".XO..X"};
        chaseOf(12, 19, 0, 92, ladder);
        chaseOf(12, 20, 1, 93, ladder);
    }

    private static void withoutAnyAnswer() {
        chaseOf(4, 2, 1, 1, "O.", ".O", "X.");
        chaseOf(4, 20, 1, 1, "O.", ".O", "X.");
        // White 0 takes 3; black 5 would have no breath, black 3 would bring the first board back.
        chaseOf(2, 2, 1, 1, ".XX", "XO.");
    }

    private static void lawOfTheChase() {
        for (int law = 0; law <= 2; law++) {
            // The game's row refuses white at 5, but its boards are none of the chase's.
            EyeBoard ko = CHECKS.picture(law, 1, KO);
            due("lay(6)", ko.lay(6), 1);
            due("why(5)", ko.why(5), 3);
            CHECKS.chaseIs(ko, 6, 1, 1, 1);
            // The board at hand is the first one: black 3 would bring it back.
            CHECKS.chaseIs(CHECKS.picture(law, 1, ".XX", "XO."), 2, 2, 1, 1);
            // White 1, black 3, and white may lay neither at 1 nor at 5; white 3, black 5 takes, white may not back.
            CHECKS.chaseIs(CHECKS.picture(law, 1, "X.", "X.", "O."), 0, 3, 0, 4);
            // An older board of the chase may come back, whatever the game's law is.
            CHECKS.chaseIs(CHECKS.picture(law, 1, "XO.", ".XO", "X.X"), 4, 5, 0, 16);
        }
    }

    private static void eachStoneCounts() {
        chaseOf(3, 20, 0, 0, "..", ".O", "..");
        chaseOf(0, 1, 1, 1, "XO", "..");
        chaseOf(0, 2, 0, 4, "X..", "...", "...");
        // What may not be laid does not count: black's eyes.
        chaseOf(1, 20, 0, 0, ".X.X", "XXXX");
    }

    /** Chases of 599, 600, 601 and 602 tries; the greatest of these are as many without the limit. */
    private static void sixHundredTries() {
        chaseOf(2, 20, 1, 599, "X.O...", "O.X...", "......", "...X..", "...X..", "X.X..X", "..O...");
        chaseOf(5, 20, 0, 600, "O.X..", "X....", ".....", "....O", ".....", ".....", ".....");
        chaseOf(9, 20, EyeBoard.SPENT, 600, "..O..", "...XO", ".....", "X....", ".....", ".....", ".....");
        chaseOf(5, 20, EyeBoard.SPENT, 600, "O.X..", "X....", "...O.", ".....", ".....", "...O.", ".....");
        // The tries of one chase are not those of the next one.
        EyeBoard x = CHECKS.picture(0, 1, "O.X..", "X....", ".....", "....O", ".....", ".....", ".....");
        CHECKS.chaseIs(x, 5, 20, 0, 600);
        CHECKS.chaseIs(x, 5, 20, 0, 600);
        CHECKS.chaseIs(x, 5, 1, 0, 0);
    }

    private static void orderOfTries() {
        // The breath at 3 ahead of that at 4, which would need five tries.
        chaseOf(5, 2, 1, 3, "..", "..", ".O");
        // The breath ahead of what takes: four tries the other way.
        chaseOf(0, 3, 0, 8, "O.", "..");
        // Black 2: of what takes, white 4 ahead of white 7, though the group that 7 takes has the lesser crossing.
        chaseOf(1, 3, 0, 8, ".O.X", ".XO.");
        // As soon as one answer saves it, the others are not tried; as soon as it is caught, no other breath is.
        chaseOf(0, 2, 1, 3, "O.", "O.");
    }

    private static void oneToTwentyStones() {
        String[] ladder = {"..O..O", "......", "...O..", "O.OOXO", "...O.X", ".O...O", ".XO..."};
        // It would take 21.
        chaseOf(38, 20, 0, 90, ladder);
        EyeBoard x = CHECKS.picture(0, 1, "OO.", "...", "..X");
        for (int n : new int[] {MIN, -1, 0, 21, 22, MAX}) {
            due("chase(8, " + n + ")", x.chase(8, n), EyeBoard.BAD);
        }
        for (int n = 1; n <= 20; n++) {
            int told = x.chase(8, n);
            due("chase(8, " + n + ") is 0 or 1", told == 0 || told == 1 ? 1 : 0, 1);
        }
        // Any stone of the group will do.
        EyeBoard group = CHECKS.picture(0, 1, "XXX.", "OOO.", "....");
        for (int k = 0; k <= 2; k++) {
            CHECKS.chaseIs(group, k, 1, 1, 1);
        }
    }

    private static void refused() {
        EyeBoard x = CHECKS.picture(0, 1, "XO", "..");
        CHECKS.chaseIs(x, 0, 1, 1, 1);
        for (int k : new int[] {MIN, -64, -1, 4, 25, 64, 65, MAX}) {
            due("chase(" + k + ", 1)", x.chase(k, 1), EyeBoard.BAD);
        }
        for (int n : new int[] {MIN, -1, 0, 21, MAX}) {
            due("chase(0, " + n + ")", x.chase(0, n), EyeBoard.BAD);
            due("chase(2, " + n + "), BAD ahead of NO", x.chase(2, n), EyeBoard.BAD);
        }
        for (int n = 1; n <= 20; n++) {
            due("chase(2, " + n + "), free", x.chase(2, n), EyeBoard.NO);
        }
        due("tries() stays", x.tries(), 1);
    }
}
