/** Groups, regions, what stands, and points: each sentence of the document that names a boundary case. */
public final class ShapeEdgesTest {
    private static final int MAX = Integer.MAX_VALUE, MIN = Integer.MIN_VALUE;
    /** Three black groups in a row; each has two vital regions, and shares some of these with the next one. */
    private static final String[] CHAIN = {".X.X.X.", "XX.X.XX"};
    private static final Checks CHECKS = new Checks("ShapeEdgesTest");

    public static void main(String[] args) {
        terms();
        groupPromises();
        regionPromises();
        pointPromises();
        CHECKS.end();
    }

    private static void terms() {
        CHECKS.sentence("A REGION of a colour: a greatest set of CROSSINGS without a stone of it that hangs together.",
            ShapeEdgesTest::leastAndGreatestRegions);
        CHECKS.sentence("It is VITAL to a GROUP of that colour if it touches the GROUP,",
            ShapeEdgesTest::vitalWhereItTouches);
        CHECKS.sentence("and each free CROSSING of it is a BREATH of that GROUP.", ShapeEdgesTest::vitalWithEachFree);
        CHECKS.sentence("those are left out that have fewer than two VITAL REGIONS,", ShapeEdgesTest::fewerThanTwo);
        CHECKS.sentence("and REGIONS that touch a GROUP that is left out (they are VITAL to none then),",
            ShapeEdgesTest::regionsLeftOut);
        CHECKS.sentence("of all its GROUPS, again and again,", ShapeEdgesTest::againAndAgain);
        CHECKS.sentence("till all that are left have two; these STAND.", ShapeEdgesTest::whatIsLeftStands);
    }

    private static void groupPromises() {
        CHECKS.sentence("Of the GROUP at a CROSSING: 0 how many stones, 1 BREATHS, 2 its least CROSSING,",
            ShapeEdgesTest::leastAndMostOfGroups);
        CHECKS.sentence("3 VITAL REGIONS (of all its GROUPS, none left out),", ShapeEdgesTest::vitalWithNoneLeftOut);
        CHECKS.sentence("4 whether it STANDS (1, 0).", ShapeEdgesTest::standsOrNot);
        CHECKS.sentence("NO: it is free. BAD. ## Promise 10", ShapeEdgesTest::groupRefused);
        CHECKS.sentence("The i-th BREATH (from 0, by numbers) of the GROUP at a CROSSING.",
            ShapeEdgesTest::firstAndLastBreath);
        CHECKS.sentence("NONE: not so many.", ShapeEdgesTest::notSoManyBreaths);
        CHECKS.sentence("NONE: not so many. BAD; NO: it is free.", ShapeEdgesTest::breathRefused);
    }

    private static void regionPromises() {
        CHECKS.sentence("Of the REGION of a colour at a CROSSING: 0 how many CROSSINGS, 1 how many of these are free,",
            ShapeEdgesTest::crossingsOfRegions);
        CHECKS.sentence("2 how many GROUPS of the colour it touches,", ShapeEdgesTest::groupsOfRegions);
        CHECKS.sentence("3 to how many of these it is VITAL (none left out), 4 its least CROSSING.",
            ShapeEdgesTest::vitalOfRegions);
        CHECKS.sentence("NO: a stone of that colour is there. BAD.", ShapeEdgesTest::regionRefused);
        CHECKS.sentence("How many stones of a colour STAND. BAD.", ShapeEdgesTest::noneToAllStanding);
    }

    private static void pointPromises() {
        CHECKS.sentence("a free CROSSING is of a colour if the greatest set of free CROSSINGS with it that hangs "
            + "together touches that colour alone.", ShapeEdgesTest::touchesAlone);
        CHECKS.sentence("By WAY 0: free CROSSINGS of the colour and stones of the other one that were TAKEN;",
            ShapeEdgesTest::wayZero);
        CHECKS.sentence("by WAY 1: its free CROSSINGS and its stones.", ShapeEdgesTest::wayOne);
        CHECKS.sentence("POINTS of a colour by a WAY. BAD.", ShapeEdgesTest::pointsRefused);
    }

    private static void due(String call, long got, long want) {
        CHECKS.due(call, got, want);
    }

    private static void pointsAre(EyeBoard x, int blackZero, int blackOne, int whiteZero, int whiteOne) {
        due("points(1, 0)", x.points(1, 0), blackZero);
        due("points(1, 1)", x.points(1, 1), blackOne);
        due("points(2, 0)", x.points(2, 0), whiteZero);
        due("points(2, 1)", x.points(2, 1), whiteOne);
    }

    private static EyeBoard free(int w, int h) {
        EyeBoard x = new EyeBoard();
        due("board(" + w + ", " + h + ", 0)", x.board(w, h, 0), 0);
        return x;
    }

    /** 7 by 7, all but the first crossing of one colour. */
    private static EyeBoard allButFirst(int colour) {
        EyeBoard x = free(7, 7);
        for (int k = 1; k < 49; k++) {
            due("set(" + k + ")", x.set(k, colour, 1), 1);
        }
        return x;
    }

    private static void leastAndGreatestRegions() {
        for (int w = 2; w <= 7; w++) {
            EyeBoard x = free(w, 9 - w);
            for (int colour = 1; colour <= 2; colour++) {
                CHECKS.regionIs(x, colour, 0, w * (9 - w), w * (9 - w), 0, 0, 0);
                CHECKS.regionIs(x, colour, w * (9 - w) - 1, w * (9 - w), w * (9 - w), 0, 0, 0);
            }
        }
        EyeBoard full = allButFirst(1);
        CHECKS.regionIs(full, 1, 0, 1, 1, 1, 1, 0);
        CHECKS.regionIs(full, 2, 48, 49, 1, 0, 0, 0);
        // It does not hang together across a corner, nor from one line's end to the next one's beginning.
        EyeBoard corners = CHECKS.picture(0, 1, "X.X", ".X.", "X.X");
        for (int k = 1; k < 9; k += 2) {
            CHECKS.regionIs(corners, 1, k, 1, 1, 3, 3, k);
        }
        EyeBoard ends = CHECKS.picture(0, 1, "XX.", ".XX");
        CHECKS.regionIs(ends, 1, 2, 1, 1, 1, 1, 2);
        CHECKS.regionIs(ends, 1, 3, 1, 1, 1, 1, 3);
        // The other colour's stones are of it.
        EyeBoard held = CHECKS.picture(0, 1, ".OXO.", "OXXXO", "XX.XX");
        CHECKS.regionIs(held, 1, 0, 3, 1, 1, 0, 0);
        CHECKS.regionIs(held, 1, 12, 1, 1, 1, 1, 12);
        CHECKS.regionIs(held, 1, 5, 3, 1, 1, 0, 0);
        CHECKS.regionIs(held, 1, 9, 3, 1, 1, 0, 3);
    }

    private static void vitalWhereItTouches() {
        // The corner regions touch their own group alone.
        EyeBoard x = CHECKS.picture(0, 1, ".X...X.", "XX...XX");
        CHECKS.groupIs(x, 1, 3, 3, 1, 1, 0);
        CHECKS.groupIs(x, 5, 3, 3, 5, 1, 0);
        CHECKS.regionIs(x, 1, 0, 1, 1, 1, 1, 0);
        CHECKS.regionIs(x, 1, 3, 6, 6, 2, 0, 2);
        // White's stones lie between the free crossing and black, so it touches, but not with what is free.
        EyeBoard behind = CHECKS.picture(0, 1, ".OX.", "OOX.", "XXX.", "....");
        CHECKS.regionIs(behind, 1, 0, 4, 1, 1, 0, 0);
        CHECKS.groupIs(behind, 8, 5, 6, 2, 0, 0);
    }

    private static void vitalWithEachFree() {
        // Of two free crossings both, then of three but two are breaths.
        EyeBoard both = CHECKS.picture(0, 1, "..X", "XXX", "...");
        CHECKS.regionIs(both, 1, 0, 2, 2, 1, 1, 0);
        CHECKS.regionIs(both, 1, 6, 3, 3, 1, 1, 6);
        EyeBoard two = CHECKS.picture(0, 1, ".X..", "..X.", "XXX.");
        CHECKS.regionIs(two, 1, 0, 3, 3, 2, 0, 0);
        EyeBoard far = CHECKS.picture(0, 1, "XXX", "...", "...");
        CHECKS.regionIs(far, 1, 3, 6, 6, 1, 0, 3);
        CHECKS.groupIs(far, 0, 3, 3, 0, 0, 0);
        // Its white stones need not touch the group: crossing 12 does not.
        EyeBoard held = CHECKS.picture(0, 1, "XXXXX", "X.O.X", "XOOOX", "X.O.X", "XXXXX");
        CHECKS.regionIs(held, 1, 12, 9, 4, 1, 1, 6);
        CHECKS.groupIs(held, 0, 16, 4, 0, 1, 0);
        // Vital to the one group that has all free crossings as breaths, not to the other one.
        EyeBoard one = CHECKS.picture(0, 1, "XXXX", "X..X", ".XX.", "X..X");
        CHECKS.regionIs(one, 1, 5, 2, 2, 2, 2, 5);
        EyeBoard split = CHECKS.picture(0, 1, "X..", "OXX", "...");
        CHECKS.regionIs(split, 1, 1, 2, 2, 2, 1, 1);
        CHECKS.groupIs(split, 0, 1, 1, 0, 0, 0);
        CHECKS.groupIs(split, 4, 2, 4, 4, 1, 0);
    }

    private static void fewerThanTwo() {
        EyeBoard none = CHECKS.picture(0, 1, "...", ".X.", "...");
        CHECKS.groupIs(none, 4, 1, 4, 4, 0, 0);
        EyeBoard one = CHECKS.picture(0, 1, "XXX", "X.X", "XXX");
        CHECKS.groupIs(one, 0, 8, 1, 0, 1, 0);
        due("standing(1) with one", one.standing(1), 0);
        EyeBoard two = CHECKS.picture(0, 1, ".XX", "XXX", "XX.");
        CHECKS.groupIs(two, 1, 7, 2, 1, 2, 1);
        due("standing(1) with two", two.standing(1), 7);
        EyeBoard three = CHECKS.picture(0, 1, ".X.", "XXX", "XX.");
        CHECKS.groupIs(three, 1, 6, 3, 1, 3, 1);
        due("standing(1) with three", three.standing(1), 6);
        // The first crossing's stone by itself, and as one of a group that has two beside it.
        EyeBoard corner = CHECKS.picture(0, 1, "X..", "...", "...");
        CHECKS.groupIs(corner, 0, 1, 2, 0, 0, 0);
        due("standing(1) of the first crossing's stone", corner.standing(1), 0);
        EyeBoard held = CHECKS.picture(0, 1, "X.X.X", "XXXXX");
        CHECKS.groupIs(held, 0, 8, 2, 0, 2, 1);
        due("standing(1) with the first crossing's stone", held.standing(1), 8);
    }

    /** The right one has one vital region: with it goes the region in the middle, so the left one has one, too. */
    private static void regionsLeftOut() {
        EyeBoard x = CHECKS.picture(0, 1, ".X.X.", "XX.XX");
        CHECKS.groupIs(x, 1, 3, 3, 1, 2, 1);
        CHECKS.groupIs(x, 3, 3, 3, 3, 2, 1);
        due("set(4, 1, 1)", x.set(4, 1, 1), 1);
        CHECKS.groupIs(x, 1, 3, 3, 1, 2, 0);
        CHECKS.groupIs(x, 3, 4, 2, 3, 1, 0);
        due("standing(1)", x.standing(1), 0);
        // A region that touches no group that is left out stays vital: the left one has two of these.
        EyeBoard y = CHECKS.picture(0, 1, ".X.X.X.", "XXXX.XX");
        CHECKS.groupIs(y, 1, 6, 4, 1, 3, 1);
        due("set(6, 1, 1)", y.set(6, 1, 1), 1);
        CHECKS.groupIs(y, 1, 6, 4, 1, 3, 1);
        CHECKS.groupIs(y, 5, 4, 2, 5, 1, 0);
        due("standing(1) of the left one", y.standing(1), 6);
    }

    private static void againAndAgain() {
        EyeBoard x = CHECKS.picture(0, 1, CHAIN);
        due("standing(1) of three groups", x.standing(1), 8);
        due("set(6, 1, 1)", x.set(6, 1, 1), 1);
        // The right one goes first, for that the one in the middle, for that the left one.
        CHECKS.groupIs(x, 5, 4, 2, 5, 1, 0);
        CHECKS.groupIs(x, 3, 2, 4, 3, 2, 0);
        CHECKS.groupIs(x, 1, 3, 3, 1, 2, 0);
        due("standing(1)", x.standing(1), 0);
        EyeBoard other = CHECKS.picture(0, 1, CHAIN);
        due("set(0, 1, 1)", other.set(0, 1, 1), 1);
        due("standing(1) from the other side", other.standing(1), 0);
    }

    private static void whatIsLeftStands() {
        EyeBoard x = CHECKS.picture(0, 1, ".X.XO", "XXXXO", "OOOOO", ".....", "...X.");
        CHECKS.groupIs(x, 1, 6, 2, 1, 2, 1);
        CHECKS.groupIs(x, 23, 1, 3, 23, 0, 0);
        due("standing(1)", x.standing(1), 6);
        due("standing(2)", x.standing(2), 0);
        EyeBoard white = CHECKS.picture(0, 1, ".O.O.O.", "OO.O.OO");
        due("standing(2) of white's chain", white.standing(2), 8);
        due("standing(1) of white's chain", white.standing(1), 0);
        EyeBoard both = CHECKS.picture(0, 1, ".X.XO.O", "XXXXOOO", "OOOOO..");
        due("standing(1) of both", both.standing(1), 6);
        due("standing(2) of both", both.standing(2), 10);
    }

    private static void leastAndMostOfGroups() {
        EyeBoard one = free(7, 7);
        due("set(48, 2, 1)", one.set(48, 2, 1), 1);
        CHECKS.groupIs(one, 48, 1, 2, 48);
        due("set(0, 2, 1)", one.set(0, 2, 1), 1);
        CHECKS.groupIs(one, 0, 1, 2, 0);
        CHECKS.groupIs(one, 48, 1, 2, 48);
        EyeBoard most = allButFirst(2);
        CHECKS.groupIs(most, 48, 48, 1, 1, 1, 0);
        CHECKS.groupIs(most, 1, 48, 1, 1, 1, 0);
        // The least crossing of a group need not be in the column of the one that is asked for.
        EyeBoard hook = CHECKS.picture(0, 1, "...X", ".XXX", "....");
        CHECKS.groupIs(hook, 5, 4, 6, 3);
    }

    private static void vitalWithNoneLeftOut() {
        EyeBoard x = CHECKS.picture(0, 1, CHAIN);
        due("set(6, 1, 1)", x.set(6, 1, 1), 1);
        due("group(1, 3)", x.group(1, 3), 2);
        due("group(3, 3)", x.group(3, 3), 2);
        due("group(5, 3)", x.group(5, 3), 1);
        due("but none stands", x.standing(1), 0);
        EyeBoard free = CHECKS.picture(0, 1, "X..", "...", "...");
        due("group(0, 3), none is vital", free.group(0, 3), 0);
        EyeBoard four = CHECKS.picture(0, 1, ".X.X.X.", "XXXXXXX");
        due("group(1, 3), four are vital", four.group(1, 3), 4);
    }

    private static void standsOrNot() {
        EyeBoard x = CHECKS.picture(0, 1, ".X.XO", "XXXXO", "OOOOO", ".....", "...X.");
        for (int k : new int[] {1, 3, 5, 6, 7, 8}) {
            due("group(" + k + ", 4), it stands", x.group(k, 4), 1);
        }
        due("group(23, 4), it does not", x.group(23, 4), 0);
        due("group(4, 4), white's does not", x.group(4, 4), 0);
        due("lay(24) by black", x.lay(24), 0);
        due("lay(19) by white", x.lay(19), 0);
        due("group(1, 4), it stands whatever comes", x.group(1, 4), 1);
    }

    private static void groupRefused() {
        EyeBoard x = CHECKS.picture(0, 1, ".X", "O.");
        for (int what = 0; what <= 4; what++) {
            due("group(0, " + what + "), free", x.group(0, what), EyeBoard.NO);
            due("group(3, " + what + "), free", x.group(3, what), EyeBoard.NO);
            due("group(1, " + what + "), not free", x.group(1, what) >= 0 ? 1 : 0, 1);
            for (int k : new int[] {MIN, -1, 4, 64, 65, MAX}) {
                due("group(" + k + ", " + what + ")", x.group(k, what), EyeBoard.BAD);
            }
        }
        for (int what : new int[] {MIN, -1, 5, 6, MAX}) {
            due("group(1, " + what + ")", x.group(1, what), EyeBoard.BAD);
            due("group(0, " + what + "), free", x.group(0, what), EyeBoard.BAD);
        }
    }

    private static void firstAndLastBreath() {
        EyeBoard x = CHECKS.picture(0, 1, ".XX.", ".X..", "....");
        int[] want = {0, 3, 4, 6, 9};
        for (int i = 0; i < want.length; i++) {
            for (int k : new int[] {1, 2, 5}) {
                due("breath(" + k + ", " + i + ")", x.breath(k, i), want[i]);
            }
        }
        EyeBoard most = allButFirst(1);
        due("breath(48, 0), the first crossing", most.breath(48, 0), 0);
        EyeBoard last = free(7, 7);
        due("set(47, 1, 1)", last.set(47, 1, 1), 1);
        due("breath(47, 2), the last crossing", last.breath(47, 2), 48);
    }

    private static void notSoManyBreaths() {
        EyeBoard x = CHECKS.picture(0, 1, "X..", "...", "...");
        due("breath(0, 1), the last", x.breath(0, 1), 3);
        for (int i : new int[] {2, 3, 49, 64, MAX, -1, MIN}) {
            due("breath(0, " + i + ")", x.breath(0, i), EyeBoard.NONE);
        }
    }

    private static void breathRefused() {
        EyeBoard x = CHECKS.picture(0, 1, "X.", "..");
        for (int i : new int[] {MIN, -1, 0, 1, 2, MAX}) {
            due("breath(1, " + i + "), free", x.breath(1, i), EyeBoard.NO);
            due("breath(3, " + i + "), free", x.breath(3, i), EyeBoard.NO);
            for (int k : new int[] {MIN, -64, -1, 4, 25, 64, MAX}) {
                due("breath(" + k + ", " + i + ")", x.breath(k, i), EyeBoard.BAD);
            }
        }
    }

    private static void crossingsOfRegions() {
        EyeBoard x = CHECKS.picture(0, 1, ".OX.", "OOX.", "XXX.", "....");
        CHECKS.regionIs(x, 1, 0, 4, 1);
        CHECKS.regionIs(x, 1, 4, 4, 1);
        CHECKS.regionIs(x, 1, 15, 7, 7);
        CHECKS.regionIs(x, 2, 0, 1, 1);
        CHECKS.regionIs(x, 2, 2, 12, 7);
        CHECKS.regionIs(x, 2, 3, 12, 7);
    }

    private static void groupsOfRegions() {
        EyeBoard none = free(3, 3);
        due("no stone, region(1, 0, 2)", none.region(1, 0, 2), 0);
        // The one group touches it from four sides.
        EyeBoard once = CHECKS.picture(0, 1, "XXX", "X.X", "XXX");
        due("one group, region(1, 4, 2)", once.region(1, 4, 2), 1);
        EyeBoard four = CHECKS.picture(0, 1, ".X.", "X.X", ".X.");
        due("four groups, region(1, 4, 2)", four.region(1, 4, 2), 4);
        due("two of the four, region(1, 0, 2)", four.region(1, 0, 2), 2);
        // White's groups are none of the colour's, and black's one apart does not touch.
        EyeBoard apart = CHECKS.picture(0, 1, ".XO.X", "XXO..", "OOO..");
        due("region(1, 0, 2)", apart.region(1, 0, 2), 1);
        due("region(1, 14, 2)", apart.region(1, 14, 2), 2);
        due("region(2, 4, 2)", apart.region(2, 4, 2), 1);
    }

    private static void vitalOfRegions() {
        EyeBoard x = CHECKS.picture(0, 1, CHAIN);
        due("set(6, 1, 1)", x.set(6, 1, 1), 1);
        // The groups beside it are left out, but here none is.
        CHECKS.regionIs(x, 1, 9, 2, 2, 2, 2, 2);
        CHECKS.regionIs(x, 1, 4, 2, 2, 2, 2, 4);
        CHECKS.regionIs(x, 1, 0, 1, 1, 1, 1, 0);
        EyeBoard none = free(2, 2);
        CHECKS.regionIs(none, 2, 3, 4, 4, 0, 0, 0);
        // It touches two, and is vital to one of these.
        EyeBoard split = CHECKS.picture(0, 1, "X..", "OXX", "...");
        CHECKS.regionIs(split, 1, 2, 2, 2, 2, 1, 1);
        EyeBoard last = CHECKS.picture(0, 1, "XX", "X.");
        CHECKS.regionIs(last, 1, 3, 1, 1, 1, 1, 3);
    }

    private static void regionRefused() {
        EyeBoard x = CHECKS.picture(0, 1, "X.", ".O");
        for (int what = 0; what <= 4; what++) {
            due("region(1, 0, " + what + ")", x.region(1, 0, what), EyeBoard.NO);
            due("region(2, 3, " + what + ")", x.region(2, 3, what), EyeBoard.NO);
            due("region(2, 0, " + what + "), the other colour's", x.region(2, 0, what) >= 0 ? 1 : 0, 1);
            due("region(1, 3, " + what + "), the other colour's", x.region(1, 3, what) >= 0 ? 1 : 0, 1);
            for (int colour : new int[] {MIN, -1, 0, 3, MAX}) {
                due("region(" + colour + ", 1, " + what + ")", x.region(colour, 1, what), EyeBoard.BAD);
                due("region(" + colour + ", 0, " + what + ")", x.region(colour, 0, what), EyeBoard.BAD);
            }
            for (int k : new int[] {MIN, -1, 4, 64, MAX}) {
                due("region(1, " + k + ", " + what + ")", x.region(1, k, what), EyeBoard.BAD);
            }
        }
        for (int what : new int[] {MIN, -1, 5, MAX}) {
            due("region(1, 1, " + what + ")", x.region(1, 1, what), EyeBoard.BAD);
            due("region(1, 0, " + what + "), a stone of it", x.region(1, 0, what), EyeBoard.BAD);
        }
    }

    private static void noneToAllStanding() {
        EyeBoard none = free(7, 7);
        due("standing(1) of no stones", none.standing(1), 0);
        due("standing(2) of no stones", none.standing(2), 0);
        for (int colour : new int[] {MIN, -1, 0, 3, MAX}) {
            due("standing(" + colour + ")", none.standing(colour), EyeBoard.BAD);
        }
        EyeBoard most = allButFirst(2);
        due("standing(2) of 48 stones with one region", most.standing(2), 0);
        due("set(48, 0, 1)", most.set(48, 0, 1), 1);
        due("standing(2) of 47 stones with two", most.standing(2), 47);
        due("standing(1) beside them", most.standing(1), 0);
    }

    private static void touchesAlone() {
        pointsAre(free(2, 2), 0, 0, 0, 0);
        pointsAre(free(7, 7), 0, 0, 0, 0);
        EyeBoard one = free(7, 7);
        due("set(24, 1, 1)", one.set(24, 1, 1), 1);
        pointsAre(one, 48, 49, 0, 0);
        due("set(0, 2, 1)", one.set(0, 2, 1), 1);
        pointsAre(one, 0, 1, 0, 1);
        pointsAre(allButFirst(2), 0, 0, 1, 49);
        // It does not hang together across a corner: 0 is white's, 4 is both colours'.
        EyeBoard corner = CHECKS.picture(0, 1, ".O.", "O.X", ".X.");
        pointsAre(corner, 1, 3, 1, 3);
        // Nor from one line's end to the next one's beginning.
        EyeBoard ends = CHECKS.picture(0, 1, "OX.", ".OX");
        pointsAre(ends, 1, 3, 1, 3);
    }

    private static void wayZero() {
        EyeBoard x = CHECKS.picture(0, 1, "XO", "..");
        due("points(1, 0), none taken", x.points(1, 0), 0);
        due("lay(3)", x.lay(3), 1);
        // Two free crossings and one white stone taken; black's own stones do not count.
        due("points(1, 0), one taken", x.points(1, 0), 3);
        due("points(2, 0), it took none", x.points(2, 0), 0);
        due("undo()", x.undo(), 0);
        due("points(1, 0), taken back", x.points(1, 0), 0);
        EyeBoard all = allButFirst(2);
        due("lay(0)", all.lay(0), 48);
        due("points(1, 0), all taken", all.points(1, 0), 96);
        due("points(2, 0), all lost", all.points(2, 0), 0);
        due("lay(48) by white", all.lay(48), 0);
        due("points(1, 0), what was taken stays", all.points(1, 0), 48);
        due("board()", all.board(7, 7, 0), 2);
        due("points(1, 0) of a new board", all.points(1, 0), 0);
    }

    private static void wayOne() {
        EyeBoard x = CHECKS.picture(0, 1, "XO", "..");
        due("points(1, 1)", x.points(1, 1), 1);
        due("points(2, 1)", x.points(2, 1), 1);
        due("lay(3)", x.lay(3), 1);
        due("points(1, 1), what was taken does not count", x.points(1, 1), 4);
        due("points(2, 1)", x.points(2, 1), 0);
    }

    private static void pointsRefused() {
        EyeBoard x = CHECKS.picture(0, 1, "X.", "..");
        int[] numbers = {MIN, -1, 0, 1, 2, 3, MAX};
        for (int colour : numbers) {
            for (int way : numbers) {
                boolean fits = (colour == 1 || colour == 2) && (way == 0 || way == 1);
                int told = x.points(colour, way);
                due("points(" + colour + ", " + way + ") is BAD", told == EyeBoard.BAD ? 1 : 0, fits ? 0 : 1);
            }
        }
    }
}
