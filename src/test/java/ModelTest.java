import java.util.List;
import java.util.Map;
import java.util.Random;
import java.util.TreeMap;

/** Random runs of calls, each answer against that of PlainModel. The seeds are fixed, so each run stays the same. */
public final class ModelTest {
    private static final int MOST_CALLS = 512;
    private static final int RUNS = 500;
    private static final int[] ODD = {-1, Integer.MIN_VALUE, Integer.MAX_VALUE, 3, 10, 49, 50, 200};
    /** Boards that random runs hardly meet: chases with many tries, and fights that begin with a pass. */
    private static final String[][] HARD = {
        {".....X", "......", "...O..", "......", "X.....", ".O....", ".X...."},
        {"X...OX", "O....X", ".XXX.O", ".X....", "......", "..X...", ".X...."},
        {"OOX..O", ".X..X.", "...OOO", "O..OOO", "..OXX.", "O.....", "OXX..O"},
        {"O...X..", "OX.....", "X......", "......O", "..O....", ".X.O...", ".O.O.O."},
        {"..O....", "OX.....", "......X", ".......", "..O..X.", ".......", "OO....."},
        {".......", ".XO....", ".OX....", ".O.....", ".......", ".......", "......."},
        {"....", ".OX.", "OX.O", "..O."}, {".OX.", "OX.O", "..O."}, {"X.O.O", "XXXOO", "....."}};
    private static final List<String> RARE = List.of(
        "refused by law 0", "refused by law 1", "refused by law 2", "many taken", "set refused for breath",
        "lay FULL", "pass FULL", "left out in a later round", "all stand", "some stand, some not",
        "chase 0 with tries", "chase 1", "chase 1 with tries", "chase SPENT", "chase held up by law 0",
        "answer that takes", "answer that takes and saves", "answer held up by law 0", "all answers fail", "no answer",
        "fight 0 own, one act", "fight 0 own, many acts", "fight 1 own, many acts", "fight 0 other's, many acts",
        "fight 1 other's, one act", "fight 1 other's, many acts", "fight SPENT", "first is a stone",
        "first is a pass");

    private final Checks checks;
    private final Random random;
    private final String run;
    private final EyeBoard x = new EyeBoard();
    private final PlainModel model = new PlainModel();
    private final StringBuilder story = new StringBuilder();
    private int calls;

    private ModelTest(Checks checks, int seed) {
        this.checks = checks;
        this.random = new Random(seed);
        this.run = "run " + seed;
    }

    public static void main(String[] args) {
        Checks checks = new Checks("ModelTest");
        Map<String, Integer> met = new TreeMap<>();
        for (int seed = 0; seed < RUNS; seed++) {
            ModelTest test = new ModelTest(checks, seed);
            test.play(seed);
            test.model.met.forEach((what, times) -> met.merge(what, times, Integer::sum));
        }
        for (int i = 0; i < HARD.length; i++) {
            ModelTest test = new ModelTest(checks, -1 - i);
            test.chaseAll(HARD[i]);
            test.model.met.forEach((what, times) -> met.merge(what, times, Integer::sum));
        }
        for (int law = 0; law <= 2; law++) {
            ModelTest test = new ModelTest(checks, -100 - law);
            test.fightBehindKo(law);
            test.model.met.forEach((what, times) -> met.merge(what, times, Integer::sum));
        }
        if (args.length > 0) {
            System.out.println(met);
        }
        for (String rare : RARE) {
            checks.due("the runs met: " + rare, met.containsKey(rare) ? 1 : 0, 1);
        }
        checks.end();
    }

    private int size() {
        return model.count(7) * model.count(8);
    }

    private int among(int many) {
        return random.nextInt(many);
    }

    /** Mostly from 0 below a bound, but now and then far from it. */
    private int number(int below) {
        return among(30) == 0 ? ODD[among(ODD.length)] : among(below);
    }

    private boolean same(String call, long got, long want) {
        calls++;
        story.append(' ').append(call);
        checks.due(got == want ? call : run + story, got, want);
        return got == want;
    }

    private void play(int seed) {
        boolean fine = true;
        if (seed % 4 != 0) {
            fine = newBoard();
        }
        int stones = among(size());
        for (int i = 0; i < stones && fine; i++) {
            fine = set();
        }
        if (seed % 40 == 7) {
            fine = fill();
        }
        int turns = 20 + among(150);
        for (int turn = 0; turn < turns && calls < MOST_CALLS - 2 && fine; turn++) {
            fine = change() && ask() && (turn % 8 != 0 || askOfAll());
        }
        if (fine) {
            same("digest()", x.digest(), model.digest());
        }
    }

    private boolean newBoard() {
        int wide = among(3) == 0 ? 7 : 5;
        int w = 2 + among(wide - 1);
        int h = 2 + among(wide - 1);
        int law = among(3);
        if (among(20) == 0) {
            w = number(9);
            h = number(9);
            law = number(4);
        }
        return same("board(" + w + ", " + h + ", " + law + ")", x.board(w, h, law), model.board(w, h, law));
    }

    private boolean set() {
        int k = number(size());
        int what = among(4) == 0 ? number(4) : 1 + among(2);
        int toMove = among(8) == 0 ? number(4) : 1 + among(2);
        return same("set(" + k + ", " + what + ", " + toMove + ")", x.set(k, what, toMove), model.set(k, what, toMove));
    }

    private boolean lay() {
        int k = number(size());
        // A ko is met far oftener where the stones go back to where others were taken.
        for (int c = 0; c < size() && among(3) == 0; c++) {
            if (model.why(c) == 3) {
                k = c;
            }
        }
        return same("lay(" + k + ")", x.lay(k), model.lay(k));
    }

    private boolean change() {
        int kind = among(20);
        if (kind == 0) {
            return same("undo()", x.undo(), model.undo());
        }
        if (kind == 1) {
            return same("pass()", x.pass(), model.pass());
        }
        if (kind == 2) {
            return set();
        }
        return kind == 3 && among(8) == 0 ? newBoard() : lay();
    }

    private boolean fill() {
        boolean fine = true;
        for (int i = 0; i < 124 && fine; i++) {
            fine = among(2) == 0 ? lay() : same("pass()", x.pass(), model.pass());
        }
        for (int i = 0; i < 60 && fine; i++) {
            fine = among(2) == 0 ? lay() : same("pass()", x.pass(), model.pass());
        }
        return fine && ask();
    }

    private boolean ask() {
        int k = number(size());
        int what = number(5);
        int colour = among(6) == 0 ? number(4) : 1 + among(2);
        int n = 1 + among(6);
        switch (among(13)) {
            case 0:
                return same("why(" + k + ")", x.why(k), model.why(k));
            case 1:
                return same("at(" + k + ")", x.at(k), model.at(k));
            case 2:
                return same("group(" + k + ", " + what + ")", x.group(k, what), model.group(k, what));
            case 3:
                return same("breath(" + k + ", " + what + ")", x.breath(k, what), model.breath(k, what));
            case 4:
                return same("region(" + colour + ", " + k + ", " + what + ")",
                    x.region(colour, k, what), model.region(colour, k, what));
            case 5:
                return same("standing(" + colour + ")", x.standing(colour), model.standing(colour));
            case 6:
                return chase(k, among(3) == 0 ? number(22) : 1 + among(20));
            case 7:
            case 8:
                return chase(oneBesetBy(2), 2 + among(19));
            case 9:
                return fight(k, among(6) == 0 ? number(8) : n);
            case 10:
                return fight(oneBesetBy(1 + among(2)), n);
            case 11:
                int way = number(2);
                return same("points(" + colour + ", " + way + ")", x.points(colour, way), model.points(colour, way));
            default:
                int i = number(Math.max(model.count(0), 2) + 1);
                return same("count(" + what * 2 + ")", x.count(what * 2), model.count(what * 2))
                    && same("count(" + (what * 2 + 1) + ")", x.count(what * 2 + 1), model.count(what * 2 + 1))
                    && same("act(" + i + ")", x.act(i), model.act(i));
        }
    }

    /** A stone of a group with so few breaths, if there is one. */
    private int oneBesetBy(int breaths) {
        int from = among(size());
        for (int i = 0; i < size(); i++) {
            int k = (from + i) % size();
            if (model.group(k, 1) == breaths) {
                return k;
            }
        }
        return from;
    }

    private boolean chase(int k, int n) {
        return same("chase(" + k + ", " + n + ")", x.chase(k, n), model.chase(k, n))
            && same("tries()", x.tries(), model.tries());
    }

    private boolean fight(int k, int n) {
        return same("fight(" + k + ", " + n + ")", x.fight(k, n), model.fight(k, n))
            && same("tries()", x.tries(), model.tries())
            && same("first()", x.first(), model.first());
    }

    private void picture(int law, int toMove, String... lines) {
        int w = lines[0].length();
        same("board()", x.board(w, lines.length, law), model.board(w, lines.length, law));
        for (int k = 0; k < size(); k++) {
            int what = ".XO".indexOf(lines[k / w].charAt(k % w));
            same("set(" + k + ", " + what + ")", x.set(k, what, toMove), model.set(k, what, toMove));
        }
    }

    private void chaseAll(String... lines) {
        picture(0, 1, lines);
        for (int k = 0; k < size(); k++) {
            if (model.group(k, 2) == k && model.group(k, 1) <= 2) {
                for (int n = 1; n <= 20 && calls < MOST_CALLS - 2; n++) {
                    chase(k, n);
                }
            }
        }
    }

    /** Where the taking colour can't take back at once, and would lose its own stones by any other stone. */
    private void fightBehindKo(int law) {
        picture(law, 2, ".XXO.", ".X.XO");
        same("lay(7)", x.lay(7), model.lay(7));
        for (int n = 1; n <= 6; n++) {
            for (int k = 0; k < size(); k++) {
                fight(k, n);
            }
        }
    }

    private boolean askOfAll() {
        boolean fine = same("digest()", x.digest(), model.digest());
        for (int k = 0; k < size() && calls < MOST_CALLS - 60 && fine; k++) {
            int what = among(5);
            fine = same("why(" + k + ")", x.why(k), model.why(k));
            if (fine && model.at(k) != 0) {
                fine = same("group(" + k + ", " + what + ")", x.group(k, what), model.group(k, what));
            }
        }
        return fine;
    }
}
