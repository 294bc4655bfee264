/** fight(), tries() and first(): each sentence of the document that names a boundary case. */
public final class FightEdgesTest {
    private static final int MAX = Integer.MAX_VALUE, MIN = Integer.MIN_VALUE;
    private static final String[] KO = {".XO.", "XO.O", ".XO."};
    private static final Checks CHECKS = new Checks("FightEdgesTest");

    public static void main(String[] args) {
        whenItIsTaken();
        promises();
        triesAndFirst();
        CHECKS.end();
    }

    private static void whenItIsTaken() {
        CHECKS.sentence("the one TO MOVE lays at any CROSSING that may be (by THE LAW, with THE ROW and the boards of "
            + "the FIGHT), by numbers, and then passes;", FightEdgesTest::whatMayBeDone);
        CHECKS.sentence("of these for the stone's own colour each,", FightEdgesTest::eachForItsOwnColour);
        CHECKS.sentence("for the other one some one,", FightEdgesTest::someOneForTheOther);
        CHECKS.sentence("must be one behind which the stone is gone,", FightEdgesTest::theStoneIsGone);
        CHECKS.sentence("or TAKEN IN n - 1 ACTS, the other colour being TO MOVE;", FightEdgesTest::oneActLess);
        CHECKS.sentence("IN 0 it is not.", FightEdgesTest::inNone);
    }

    private static void promises() {
        CHECKS.sentence("The FIGHT about a stone, in n (1 .. 6) ACTS: 1 TAKEN, 0 not.", FightEdgesTest::oneToSixActs);
        CHECKS.sentence("BAD; NO: it is free; SPENT. ## Promise 15", FightEdgesTest::refused);
        CHECKS.sentence("both are SPENT as a further one would be above 600.", FightEdgesTest::sixHundredTries);
        CHECKS.sentence("They try CROSSINGS by numbers", FightEdgesTest::byNumbers);
        CHECKS.sentence("and stop as soon as it is decided.", FightEdgesTest::stopsWhenDecided);
        CHECKS.sentence("FULL: 120 ACTS.", FightEdgesTest::behindTheLastAct);
    }

    private static void triesAndFirst() {
        CHECKS.sentence("How many TRIES the latest chase() or fight() made that was neither BAD nor NO;",
            FightEdgesTest::triesOfTheLatest);
        CHECKS.sentence("neither BAD nor NO; 0 before any.", FightEdgesTest::noTriesBeforeAny);
        CHECKS.sentence("The CROSSING of the first ACT by which the latest fight() that told 1, about a stone not of "
            + "the one TO MOVE, found it TAKEN", FightEdgesTest::firstOfTheLatest);
        CHECKS.sentence("(W times H: a pass);", FightEdgesTest::firstIsAPass);
        CHECKS.sentence("(W times H: a pass); NONE: there was none such.", FightEdgesTest::noneSuch);
    }

    private static void due(String call, long got, long want) {
        CHECKS.due(call, got, want);
    }

    private static void whatMayBeDone() {
        for (int law = 0; law <= 2; law++) {
            // The row: white may not take back at 5; white 3, white 11 and a pass are left.
            EyeBoard x = CHECKS.picture(law, 1, KO);
            due("lay(6)", x.lay(6), 1);
            CHECKS.fightIs(x, 6, 1, 0, 3);
            // The boards of the fight: white 4 takes 5, black may not take back at 5 and passes, white 1 takes.
            EyeBoard y = CHECKS.picture(law, 2, "X.", "XO", ".X");
            CHECKS.fightIs(y, 2, 3, 1, 3);
            due("first()", y.first(), 4);
        }
        // Behind two passes law 0 has forgotten the board: white 3, then white 5 takes.
        EyeBoard old = CHECKS.picture(0, 1, KO);
        due("lay(6)", old.lay(6), 1);
        due("pass()", old.pass(), 1);
        due("pass()", old.pass(), 2);
        CHECKS.fightIs(old, 6, 1, 1, 2);
        due("first()", old.first(), 5);
        // Nothing may be laid, but a pass may be done: white's, then black 3 takes.
        CHECKS.fightIs(CHECKS.picture(0, 2, "OO", "O."), 0, 1, 0, 1);
        CHECKS.fightIs(CHECKS.picture(0, 2, "OO", "O."), 0, 2, 1, 2);
    }

    /** Black 1 or 2 would lose his group, but he may pass, and white may lay nowhere. */
    private static void eachForItsOwnColour() {
        CHECKS.fightIs(CHECKS.picture(0, 1, "X.", ".X"), 0, 2, 0, 6);
        // Black 2, white 3; black 5, white 2, white 3; a pass, white 2, white 3.
        CHECKS.fightIs(CHECKS.picture(0, 1, "XO.", ".O."), 0, 2, 1, 8);
    }

    private static void someOneForTheOther() {
        // White 2 does not take, white 3 does.
        CHECKS.fightIs(CHECKS.picture(0, 2, "XO.", "..."), 0, 1, 1, 2);
        // Black 4 and a pass alone would not do; black 6 and 8 neither: none of the four takes.
        CHECKS.fightIs(CHECKS.picture(0, 1, "OXX", "O.X", ".X."), 0, 1, 0, 4);
    }

    private static void theStoneIsGone() {
        // Another stone is taken, but not the one that is asked for.
        EyeBoard x = CHECKS.picture(0, 1, "OX...", "....O", "....X");
        due("fight(0, 1)", x.fight(0, 1), 1);
        due("first()", x.first(), 5);
        due("fight(9, 1)", x.fight(9, 1), 0);
        // Its whole group goes with it.
        EyeBoard group = CHECKS.picture(0, 2, "XX", "X.");
        for (int k = 0; k <= 2; k++) {
            CHECKS.fightIs(group, k, 1, 1, 1);
        }
    }

    /** Fights that are won in so many acts, and not in one less. */
    private static void oneActLess() {
        EyeBoard three = CHECKS.picture(0, 1, "OXX", "O.X", ".X.");
        CHECKS.fightIs(three, 0, 2, 0, 8);
        // Black 4; white may only pass; black 6.
        CHECKS.fightIs(three, 0, 3, 1, 3);
        due("first()", three.first(), 4);
        EyeBoard four = CHECKS.picture(0, 2, ".O", ".O");
        due("fight(1, 3)", four.fight(1, 3), 0);
        CHECKS.fightIs(four, 1, 4, 1, 10);
        EyeBoard five = CHECKS.picture(0, 2, ".O.", "...", "XXX");
        due("fight(6, 4)", five.fight(6, 4), 0);
        CHECKS.fightIs(five, 6, 5, 1, 136);
        due("first()", five.first(), 3);
        EyeBoard six = CHECKS.picture(1, 2, "O.X", "O..");
        due("fight(3, 5)", six.fight(3, 5), 0);
        CHECKS.fightIs(six, 3, 6, 1, 30);
        EyeBoard seven = CHECKS.picture(2, 2, "..", ".X");
        CHECKS.fightIs(seven, 3, 6, 0, 64);
    }

    private static void inNone() {
        // One act of its own colour never takes it, and no second one is tried.
        CHECKS.fightIs(CHECKS.picture(0, 1, "XO", ".."), 0, 1, 0, 1);
        CHECKS.fightIs(CHECKS.picture(0, 2, "OO", "O."), 0, 1, 0, 1);
        // Each act of the other colour is tried, and nothing behind it.
        CHECKS.fightIs(CHECKS.picture(0, 1, "..", ".O"), 3, 1, 0, 4);
    }

    private static void oneToSixActs() {
        EyeBoard x = CHECKS.picture(0, 2, "XO", "..");
        for (int n = 1; n <= 6; n++) {
            CHECKS.fightIs(x, 0, n, 1, 1);
        }
        for (int n : new int[] {MIN, -1, 0, 7, 8, 20, MAX}) {
            due("fight(0, " + n + ")", x.fight(0, n), EyeBoard.BAD);
        }
    }

    private static void refused() {
        EyeBoard x = CHECKS.picture(0, 2, "XO", "..");
        CHECKS.fightIs(x, 0, 1, 1, 1);
        due("first()", x.first(), 2);
        for (int k : new int[] {MIN, -64, -1, 4, 25, 64, 65, MAX}) {
            due("fight(" + k + ", 1)", x.fight(k, 1), EyeBoard.BAD);
        }
        for (int n : new int[] {MIN, 0, 7, MAX}) {
            due("fight(2, " + n + "), BAD ahead of NO", x.fight(2, n), EyeBoard.BAD);
        }
        for (int n = 1; n <= 6; n++) {
            due("fight(2, " + n + "), free", x.fight(2, n), EyeBoard.NO);
        }
        due("tries() stays", x.tries(), 1);
        due("first() stays", x.first(), 2);
    }

    /** Fights of 600 and of 601 tries; the latter are as many without the limit. */
    private static void sixHundredTries() {
        CHECKS.fightIs(CHECKS.picture(2, 2, "..", "X.", "..", ".."), 2, 6, 0, 600);
        CHECKS.fightIs(CHECKS.picture(1, 1, "..", ".O", "..", "X."), 6, 6, 0, 600);
        EyeBoard won = CHECKS.picture(0, 1, "...X", "...O", "XX.O");
        CHECKS.fightIs(won, 11, 5, 1, 600);
        due("first() with the last try", won.first() != EyeBoard.NONE ? 1 : 0, 1);
        CHECKS.fightIs(CHECKS.picture(1, 2, "....", "...X", "....", "O..."), 12, 5, EyeBoard.SPENT, 600);
        EyeBoard lost = CHECKS.picture(0, 1, "XO", "..", ".X", "X.", ".O", ".O");
        CHECKS.fightIs(lost, 9, 6, EyeBoard.SPENT, 600);
        due("first() behind SPENT", lost.first(), EyeBoard.NONE);
        CHECKS.fightIs(CHECKS.picture(0, 1, "X.", "X.", ".O", ".O", "X."), 8, 6, EyeBoard.SPENT, 600);
        // The tries of one fight are not those of the next one.
        CHECKS.fightIs(won, 11, 5, 1, 600);
        CHECKS.fightIs(won, 11, 5, 1, 600);
    }

    private static void byNumbers() {
        // White 2 and 3 both take; the lesser one is found.
        EyeBoard x = CHECKS.picture(0, 2, "XX", "..");
        due("fight(0, 1)", x.fight(0, 1), 0);
        EyeBoard both = CHECKS.picture(0, 2, "XO.OX", ".....");
        CHECKS.fightIs(both, 0, 1, 1, 2);
        due("first()", both.first(), 5);
        // White 2, 5, 6, 7, 8 do not take 4, white 9 does.
        CHECKS.fightIs(both, 4, 1, 1, 6);
        due("first(), the last crossing", both.first(), 9);
        EyeBoard least = CHECKS.picture(0, 2, ".X", "XX");
        CHECKS.fightIs(least, 3, 1, 1, 1);
        due("first(), the first crossing", least.first(), 0);
        EyeBoard first = CHECKS.picture(0, 1, "O.", "X.");
        CHECKS.fightIs(first, 0, 1, 1, 1);
        due("first()", first.first(), 1);
    }

    private static void stopsWhenDecided() {
        // White 2 takes at once: nothing behind it is tried, in however many acts.
        for (int n = 1; n <= 6; n++) {
            CHECKS.fightIs(CHECKS.picture(0, 2, "XO", ".."), 0, n, 1, 1);
        }
        // Black's first act in one, black's first and white's three in two.
        EyeBoard own = CHECKS.picture(0, 1, "X.", "..");
        CHECKS.fightIs(own, 0, 1, 0, 1);
        CHECKS.fightIs(own, 0, 2, 0, 1 + 3);
    }

    /** There is room for the acts of a fight behind the last act that there may be. */
    private static void behindTheLastAct() {
        EyeBoard x = CHECKS.picture(1, 2, "O.X", "O..");
        for (int i = 1; i <= 120; i++) {
            due("pass()", x.pass(), i);
        }
        CHECKS.fightIs(x, 3, 6, 1, 30);
        due("lay(1)", x.lay(1), EyeBoard.FULL);
        due("chase(3, 1)", x.chase(3, 1), 0);
        due("undo()", x.undo(), 119);
        due("fight(3, 1) of the other colour", x.fight(3, 1), 0);
    }

    private static void triesOfTheLatest() {
        EyeBoard x = CHECKS.picture(0, 2, "XO.", "...");
        CHECKS.fightIs(x, 0, 1, 1, 2);
        due("chase(0, 21), BAD", x.chase(0, 21), EyeBoard.BAD);
        due("chase(2, 1), NO", x.chase(2, 1), EyeBoard.NO);
        due("fight(0, 7), BAD", x.fight(0, 7), EyeBoard.BAD);
        due("fight(2, 1), NO", x.fight(2, 1), EyeBoard.NO);
        due("tries() stays", x.tries(), 2);
        due("chase(0, 1)", x.chase(0, 1), 1);
        due("tries() of the chase", x.tries(), 1);
        due("chase(1, 1)", x.chase(1, 1), 0);
        due("tries() of a chase without any", x.tries(), 0);
        EyeBoard spent = CHECKS.picture(0, 1, ".....", ".....", "..O..", ".....", ".....");
        due("fight(12, 6)", spent.fight(12, 6), EyeBoard.SPENT);
        due("tries() of one that is SPENT", spent.tries(), 600);
        due("lay(0)", spent.lay(0), 0);
        due("undo()", spent.undo(), 0);
        due("board(2, 2, 0)", spent.board(2, 2, 0), 0);
        due("tries() behind other calls", spent.tries(), 600);
    }

    private static void noTriesBeforeAny() {
        EyeBoard x = new EyeBoard();
        due("tries() of a new object", x.tries(), 0);
        due("set(0, 1, 1)", x.set(0, 1, 1), 1);
        due("chase(1, 1), NO", x.chase(1, 1), EyeBoard.NO);
        due("fight(0, 0), BAD", x.fight(0, 0), EyeBoard.BAD);
        due("tries() before any", x.tries(), 0);
        due("lay(1)", x.lay(1), 0);
        due("tries(), a stone of the game is none", x.tries(), 0);
    }

    private static void firstOfTheLatest() {
        EyeBoard x = CHECKS.picture(0, 2, "XO.XO", "...O.", ".....", ".....", ".....");
        due("fight(0, 1)", x.fight(0, 1), 1);
        due("first()", x.first(), 5);
        due("fight(3, 1)", x.fight(3, 1), 1);
        due("first() of the latest", x.first(), 2);
        due("fight(4, 1), told 0", x.fight(4, 1), 0);
        due("first() behind a 0", x.first(), 2);
        due("fight(1, 6), SPENT", x.fight(1, 6), EyeBoard.SPENT);
        due("first() behind SPENT", x.first(), 2);
        due("fight(2, 1), NO", x.fight(2, 1), EyeBoard.NO);
        due("fight(0, 0), BAD", x.fight(0, 0), EyeBoard.BAD);
        due("chase(0, 1)", x.chase(0, 1), 1);
        due("lay(5)", x.lay(5), 1);
        due("undo()", x.undo(), 0);
        due("first() behind other calls", x.first(), 2);
        // About a stone of the one to move, told 1: it is no such fight.
        EyeBoard own = CHECKS.picture(0, 2, "XO.", ".O.");
        due("fight(0, 1)", own.fight(0, 1), 1);
        due("first()", own.first(), 3);
        due("pass()", own.pass(), 1);
        due("fight(0, 2) of his own", own.fight(0, 2), 1);
        due("first() stays", own.first(), 3);
        due("board(2, 2, 0)", own.board(2, 2, 0), 1);
        due("first() behind board()", own.first(), 3);
    }

    /** White has just taken at 8, so black can't take back; but if he passes, white can do nothing that saves 7. */
    private static void firstIsAPass() {
        for (int law = 0; law <= 2; law++) {
            EyeBoard x = CHECKS.picture(law, 2, ".XXO.", ".X.XO");
            due("lay(7)", x.lay(7), 1);
            due("why(8)", x.why(8), 3);
            CHECKS.fightIs(x, 7, 1, 0, 3);
            due("fight(7, 2)", x.fight(7, 2), 0);
            due("first() of none", x.first(), EyeBoard.NONE);
            int told = x.fight(7, 3);
            // By laws 1 and 2 the board may not come back at all.
            due("fight(7, 3) by law " + law, told, law == 0 ? 1 : 0);
            due("first() by law " + law, x.first(), law == 0 ? 10 : EyeBoard.NONE);
        }
    }

    private static void noneSuch() {
        EyeBoard x = new EyeBoard();
        due("first() of a new object", x.first(), EyeBoard.NONE);
        due("set(0, 1, 2)", x.set(0, 1, 2), 1);
        due("fight(0, 1), told 0", x.fight(0, 1), 0);
        due("first() behind a 0", x.first(), EyeBoard.NONE);
        due("fight(0, 6), SPENT", x.fight(0, 6), EyeBoard.SPENT);
        due("first() behind SPENT", x.first(), EyeBoard.NONE);
        due("fight(1, 1), NO", x.fight(1, 1), EyeBoard.NO);
        due("chase(0, 20)", x.chase(0, 20) >= 0 ? 1 : 0, 1);
        due("first() behind a chase", x.first(), EyeBoard.NONE);
        EyeBoard own = CHECKS.picture(0, 1, "XO.", ".O.");
        due("fight(0, 2) of his own, told 1", own.fight(0, 2), 1);
        due("first() behind it", own.first(), EyeBoard.NONE);
    }
}
