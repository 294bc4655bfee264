/** Every board and every short game on the smallest boards, each answer against that of PlainModel. */
public final class AllBoardsTest {
    private static final int MOST_CALLS = 512;
    private static final int[] CHASES = {1, 2, 3, 20};
    private static final Checks CHECKS = new Checks("AllBoardsTest");

    private final int w;
    private final int h;
    private final int law;
    private final String name;
    private EyeBoard x;
    private PlainModel model;
    private String story;
    private int calls;

    private AllBoardsTest(int w, int h, int law) {
        this.w = w;
        this.h = h;
        this.law = law;
        this.name = "board(" + w + ", " + h + ", " + law + ")";
    }

    public static void main(String[] args) {
        // How many of the boards have a breath for every group is known: 57, 489, 4125 and 12675.
        allBoards(2, 2, 57);
        allBoards(2, 3, 489);
        allBoards(3, 2, 489);
        allBoards(4, 2, 4125);
        allBoards(3, 3, 12675);
        for (int law = 0; law <= 2; law++) {
            new AllBoardsTest(2, 2, law).games(new int[7], 0);
            new AllBoardsTest(2, 3, law).games(new int[4], 0);
        }
        CHECKS.end();
    }

    private static void allBoards(int w, int h, int want) {
        int allowed = 0;
        int boards = 1;
        for (int k = 0; k < w * h; k++) {
            boards *= 3;
        }
        for (int number = 0; number < boards; number++) {
            AllBoardsTest test = new AllBoardsTest(w, h, number % 3);
            if (test.makeBoard(number, 1 + number / 5 % 2)) {
                allowed++;
                test.askOfColours();
                test.askOfCrossings(w * h < 9 ? 3 : 2);
            }
        }
        CHECKS.due("allowed boards of " + w + " by " + h, allowed, want);
    }

    private void begin() {
        x = new EyeBoard();
        model = new PlainModel();
        story = name;
        calls = 0;
        same("board", x.board(w, h, law), model.board(w, h, law));
    }

    private boolean same(String call, long got, long want) {
        calls++;
        CHECKS.due(got == want ? call : story + ", " + call, got, want);
        return got == want;
    }

    /** The board whose crossings are the digits of a number to base 3; false if a group has no breath. */
    private boolean makeBoard(int number, int toMove) {
        begin();
        int digits = number;
        for (int k = 0; k < w * h; k++) {
            int what = digits % 3;
            digits /= 3;
            int told = x.set(k, what, toMove);
            same("set(" + k + ", " + what + ", " + toMove + ")", told, model.set(k, what, toMove));
            story += " set(" + k + ", " + what + ", " + toMove + ")";
            if (told != 1) {
                return false;
            }
        }
        return true;
    }

    private void askOfColours() {
        for (int colour = 1; colour <= 2; colour++) {
            same("standing(" + colour + ")", x.standing(colour), model.standing(colour));
            for (int way = 0; way <= 1; way++) {
                same("points(" + colour + ", " + way + ")", x.points(colour, way), model.points(colour, way));
            }
            for (int k = 0; k < w * h; k++) {
                for (int what = 0; what <= 4; what++) {
                    same("region(" + colour + ", " + k + ", " + what + ")",
                        x.region(colour, k, what), model.region(colour, k, what));
                }
            }
        }
    }

    private void askOfCrossings(int mostActs) {
        for (int k = 0; k < w * h; k++) {
            same("why(" + k + ")", x.why(k), model.why(k));
            for (int what = 0; what <= 4; what++) {
                same("group(" + k + ", " + what + ")", x.group(k, what), model.group(k, what));
            }
            int breaths = Math.max(model.group(k, 1), 0);
            for (int i = 0; i <= breaths; i++) {
                same("breath(" + k + ", " + i + ")", x.breath(k, i), model.breath(k, i));
            }
            search(k, mostActs);
        }
        same("digest()", x.digest(), model.digest());
        CHECKS.due("calls within the limit", calls <= MOST_CALLS ? 1 : 0, 1);
    }

    private void search(int k, int mostActs) {
        for (int n : CHASES) {
            same("chase(" + k + ", " + n + ")", x.chase(k, n), model.chase(k, n));
            same("tries() of chase(" + k + ", " + n + ")", x.tries(), model.tries());
        }
        for (int n = 1; n <= mostActs; n++) {
            same("fight(" + k + ", " + n + ")", x.fight(k, n), model.fight(k, n));
            same("tries() of fight(" + k + ", " + n + ")", x.tries(), model.tries());
            same("first() of fight(" + k + ", " + n + ")", x.first(), model.first());
        }
    }

    /** Every game that goes on from the first acts of a row, as long as there is room in it. */
    private void games(int[] acts, int many) {
        begin();
        for (int i = 0; i < many; i++) {
            act(acts[i]);
        }
        for (int what = 0; what <= 9; what++) {
            same("count(" + what + ")", x.count(what), model.count(what));
        }
        boolean[] able = new boolean[w * h + 1];
        able[w * h] = true;
        for (int k = 0; k < w * h; k++) {
            able[k] = model.why(k) == 0;
        }
        askOfCrossings(2);
        backToTheBeginning();
        for (int k = 0; k <= w * h && many < acts.length; k++) {
            if (able[k]) {
                acts[many] = k;
                games(acts, many + 1);
            }
        }
    }

    private void act(int k) {
        if (k == w * h) {
            same("pass()", x.pass(), model.pass());
        } else {
            same("lay(" + k + ")", x.lay(k), model.lay(k));
        }
        story += k == w * h ? " pass()" : " lay(" + k + ")";
        same("digest()", x.digest(), model.digest());
    }

    private void backToTheBeginning() {
        for (int left = model.count(0); left >= 0; left--) {
            same("undo()", x.undo(), model.undo());
            same("digest()", x.digest(), model.digest());
        }
    }
}
