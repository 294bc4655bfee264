/** Promises 9 to 12 and 17: groups, breaths, regions, what stands, and points. */
public final class ShapeTest {
    private static final int MAX = Integer.MAX_VALUE, MIN = Integer.MIN_VALUE;
    /** Each of the two black groups has one region of its own, and one that is vital to both. */
    private static final String[] SHARED = {".X.X.OO", "XX.XXOO"};
    /** The same, but the right one's own region is not vital: crossing 13 is free and no breath of it. */
    private static final String[] BROKEN = {".X.X.OO", "XX.XXO."};
    private static final Checks CHECKS = new Checks("ShapeTest");

    public static void main(String[] args) {
        groups();
        groupRefused();
        groupsAtEdges();
        breathsByNumber();
        vitalRegions();
        regionsOfBothColours();
        regionRefused();
        allStand();
        leftOutRoundByRound();
        someStand();
        noneStand();
        pointsByBothWays();
        pointsWithTaken();
        pointsRefused();
        CHECKS.end();
    }

    private static void due(String call, long got, long want) {
        CHECKS.due(call, got, want);
    }

    private static EyeBoard mixed() {
        return CHECKS.picture(0, 1, ".XX.O", "..X.O", "O.X..", "OO...");
    }

    private static void groups() {
        EyeBoard x = mixed();
        for (int k : new int[] {1, 2, 7, 12}) {
            CHECKS.groupIs(x, k, 4, 7, 1, 0, 0);
        }
        CHECKS.groupIs(x, 16, 3, 3, 10, 0, 0);
        CHECKS.groupIs(x, 9, 2, 3, 4, 0, 0);
        due("group() is no act", x.count(0), 0);
    }

    private static void groupRefused() {
        EyeBoard x = mixed();
        for (int what = 0; what <= 4; what++) {
            due("group(0, " + what + "), free", x.group(0, what), EyeBoard.NO);
        }
        for (int what : new int[] {-1, 5, MAX, MIN}) {
            due("group(1, " + what + ")", x.group(1, what), EyeBoard.BAD);
            due("group(0, " + what + "), BAD ahead of NO", x.group(0, what), EyeBoard.BAD);
        }
        for (int k : new int[] {-1, 20, MAX, MIN}) {
            due("group(" + k + ", 0)", x.group(k, 0), EyeBoard.BAD);
        }
    }

    /** The last crossing of a line and the first of the next one are no neighbours. */
    private static void groupsAtEdges() {
        EyeBoard x = CHECKS.picture(0, 1, "..X", "X..", "..X");
        CHECKS.groupIs(x, 2, 1, 2, 2);
        CHECKS.groupIs(x, 3, 1, 3, 3);
        CHECKS.groupIs(x, 8, 1, 2, 8);
        EyeBoard wide = CHECKS.picture(0, 1, "......X", "X......");
        CHECKS.groupIs(wide, 6, 1, 2, 6);
        CHECKS.groupIs(wide, 7, 1, 2, 7);
        EyeBoard large = CHECKS.picture(0, 1,
            ".......", ".......", ".......", ".......", ".......", ".....XX", ".....XX");
        CHECKS.groupIs(large, 48, 4, 4, 40);
    }

    private static void breathsByNumber() {
        EyeBoard x = mixed();
        int[] want = {0, 3, 6, 8, 11, 13, 17};
        for (int i = 0; i < want.length; i++) {
            due("breath(12, " + i + ")", x.breath(12, i), want[i]);
            due("breath(1, " + i + ")", x.breath(1, i), want[i]);
        }
        for (int i : new int[] {7, -1, MAX, MIN}) {
            due("breath(12, " + i + ")", x.breath(12, i), EyeBoard.NONE);
            due("breath(0, " + i + "), free", x.breath(0, i), EyeBoard.NO);
            due("breath(20, " + i + ")", x.breath(20, i), EyeBoard.BAD);
            due("breath(-1, " + i + ")", x.breath(-1, i), EyeBoard.BAD);
        }
        due("breath(10, 2)", x.breath(10, 2), 17);
        due("breath(10, 3)", x.breath(10, 3), EyeBoard.NONE);
        due("breath(MAX, 0)", x.breath(MAX, 0), EyeBoard.BAD);
    }

    private static void vitalRegions() {
        EyeBoard x = CHECKS.picture(0, 1, ".X.X.", "XXXXX", ".....");
        CHECKS.groupIs(x, 8, 7, 8, 1, 4, 1);
        CHECKS.regionIs(x, 1, 0, 1, 1, 1, 1, 0);
        CHECKS.regionIs(x, 1, 4, 1, 1, 1, 1, 4);
        CHECKS.regionIs(x, 1, 12, 5, 5, 1, 1, 10);
        CHECKS.regionIs(x, 2, 12, 15, 8, 0, 0, 0);
        EyeBoard deep = CHECKS.picture(0, 1, ".X.X.", "XXXXX", ".....", ".....");
        CHECKS.groupIs(deep, 8, 7, 8, 1, 3, 1);
        CHECKS.regionIs(deep, 1, 12, 10, 10, 1, 0, 10);
        EyeBoard held = CHECKS.picture(0, 1, ".X...", "XXXXX", ".O.O.", "OOOOO");
        CHECKS.groupIs(held, 1, 6, 7, 1, 3, 1);
        CHECKS.regionIs(held, 1, 16, 10, 3, 1, 1, 10);
        CHECKS.groupIs(held, 11, 7, 3, 11, 0, 0);
    }

    private static void regionsOfBothColours() {
        EyeBoard x = CHECKS.picture(0, 1, SHARED);
        CHECKS.regionIs(x, 1, 0, 1, 1, 1, 1, 0);
        CHECKS.regionIs(x, 1, 9, 2, 2, 2, 2, 2);
        CHECKS.regionIs(x, 1, 13, 5, 1, 1, 1, 4);
        CHECKS.regionIs(x, 1, 4, 5, 1, 1, 1, 4);
        CHECKS.regionIs(x, 2, 0, 10, 4, 1, 0, 0);
        CHECKS.regionIs(x, 2, 11, 10, 4, 1, 0, 0);
        EyeBoard broken = CHECKS.picture(0, 1, BROKEN);
        CHECKS.regionIs(broken, 1, 13, 5, 2, 1, 0, 4);
        CHECKS.regionIs(broken, 2, 13, 1, 1, 1, 1, 13);
        EyeBoard free = new EyeBoard();
        CHECKS.regionIs(free, 1, 7, 25, 25, 0, 0, 0);
        CHECKS.regionIs(free, 2, 24, 25, 25, 0, 0, 0);
        EyeBoard twice = CHECKS.picture(0, 1, "X.O", "..X");
        CHECKS.regionIs(twice, 1, 1, 4, 3, 2, 0, 1);
        CHECKS.regionIs(twice, 2, 0, 5, 3, 1, 0, 0);
    }

    private static void regionRefused() {
        EyeBoard x = CHECKS.picture(0, 1, SHARED);
        for (int what = 0; what <= 4; what++) {
            due("region(1, 1, " + what + ")", x.region(1, 1, what), EyeBoard.NO);
            due("region(2, 5, " + what + ")", x.region(2, 5, what), EyeBoard.NO);
        }
        int[][] bad = {{0, 0, 0}, {3, 0, 0}, {-1, 0, 0}, {1, -1, 0}, {1, 14, 0}, {1, 0, -1}, {1, 0, 5}, {1, 1, 5},
            {MAX, 0, 0}, {1, MAX, 0}, {1, 0, MAX}, {MIN, MIN, MIN}};
        for (int[] b : bad) {
            due("region(" + b[0] + ", " + b[1] + ", " + b[2] + ")", x.region(b[0], b[1], b[2]), EyeBoard.BAD);
        }
    }

    private static void allStand() {
        EyeBoard x = CHECKS.picture(0, 1, SHARED);
        CHECKS.groupIs(x, 1, 3, 3, 1, 2, 1);
        CHECKS.groupIs(x, 11, 3, 3, 3, 2, 1);
        due("standing(1)", x.standing(1), 6);
        due("standing(2)", x.standing(2), 0);
    }

    /** The right group goes first; its shared region goes with it, so that the left one has but one then. */
    private static void leftOutRoundByRound() {
        EyeBoard x = CHECKS.picture(0, 1, BROKEN);
        CHECKS.groupIs(x, 1, 3, 3, 1, 2, 0);
        CHECKS.groupIs(x, 11, 3, 3, 3, 1, 0);
        due("standing(1)", x.standing(1), 0);
        due("set(13, 2, 1)", x.set(13, 2, 1), 1);
        due("standing(1) then", x.standing(1), 6);
    }

    private static void someStand() {
        EyeBoard x = CHECKS.picture(0, 1, ".X.XO", "XXXXO", "OOOOO", ".....", "...X.");
        CHECKS.groupIs(x, 1, 6, 2, 1, 2, 1);
        CHECKS.groupIs(x, 23, 1, 3, 23, 0, 0);
        due("standing(1)", x.standing(1), 6);
        due("standing(2)", x.standing(2), 0);
        due("lay(15)", x.lay(15), 0);
        due("standing(1) behind a stone", x.standing(1), 6);
        EyeBoard white = CHECKS.picture(0, 1, ".O.OX", "OOOOX", "XXXXX", ".....", "...O.");
        due("standing(2) of white", white.standing(2), 6);
        due("standing(1) of white", white.standing(1), 0);
    }

    private static void noneStand() {
        EyeBoard x = new EyeBoard();
        due("standing(1), free board", x.standing(1), 0);
        due("standing(2), free board", x.standing(2), 0);
        for (int colour : new int[] {0, 3, -1, MAX, MIN}) {
            due("standing(" + colour + ")", x.standing(colour), EyeBoard.BAD);
        }
        EyeBoard one = CHECKS.picture(0, 1, ".XX", "XXX", "XX.");
        CHECKS.groupIs(one, 1, 7, 2, 1, 2, 1);
        due("standing(1) of two free ones", one.standing(1), 7);
        due("set(0, 1, 1)", one.set(0, 1, 1), 1);
        due("standing(1) of one free one", one.standing(1), 0);
    }

    private static void pointsByBothWays() {
        EyeBoard x = CHECKS.picture(0, 1, ".X.O.", "XX.OO", ".....", ".....", ".....");
        due("points(1, 0)", x.points(1, 0), 1);
        due("points(1, 1)", x.points(1, 1), 4);
        due("points(2, 0)", x.points(2, 0), 1);
        due("points(2, 1)", x.points(2, 1), 4);
        EyeBoard y = CHECKS.picture(0, 1, "..XO.", "..XO.", "..XOO");
        due("points(1, 0)", y.points(1, 0), 6);
        due("points(1, 1)", y.points(1, 1), 9);
        due("points(2, 0)", y.points(2, 0), 2);
        due("points(2, 1)", y.points(2, 1), 6);
        EyeBoard one = CHECKS.picture(0, 1, "...", ".X.");
        due("points(1, 0) of one stone", one.points(1, 0), 5);
        due("points(1, 1) of one stone", one.points(1, 1), 6);
        due("points(2, 0) of none", one.points(2, 0), 0);
        due("points(2, 1) of none", one.points(2, 1), 0);
        EyeBoard free = new EyeBoard();
        due("points(1, 1), free board", free.points(1, 1), 0);
        due("points(2, 0), free board", free.points(2, 0), 0);
    }

    private static void pointsWithTaken() {
        EyeBoard x = CHECKS.picture(0, 1, "XOO.", ".XX.", "....");
        due("lay(3)", x.lay(3), 2);
        due("points(1, 0) with two taken", x.points(1, 0), 10);
        due("points(1, 1) with two taken", x.points(1, 1), 12);
        due("points(2, 0) with two taken", x.points(2, 0), 0);
        due("undo()", x.undo(), 0);
        due("points(1, 0) with none taken", x.points(1, 0), 0);
        EyeBoard y = CHECKS.picture(0, 2, "XO", "..");
        due("lay(2)", y.lay(2), 1);
        due("points(2, 0) with one taken", y.points(2, 0), 3);
        due("points(2, 1) with one taken", y.points(2, 1), 4);
        due("points(1, 0) with one lost", y.points(1, 0), 0);
    }

    private static void pointsRefused() {
        EyeBoard x = mixed();
        int[][] bad = {{0, 0}, {3, 0}, {1, -1}, {1, 2}, {-1, 1}, {MAX, 0}, {1, MAX}, {MIN, MIN}};
        for (int[] b : bad) {
            due("points(" + b[0] + ", " + b[1] + ")", x.points(b[0], b[1]), EyeBoard.BAD);
        }
    }
}
