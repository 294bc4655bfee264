import java.util.ArrayList;
import java.util.HashMap;
import java.util.HashSet;
import java.util.List;
import java.util.Map;
import java.util.Set;
import java.util.TreeSet;

/**
 * The document once more, told with lists and sets and without any care for speed; it shares no code with EyeBoard.
 * It notes what it met, so that a test can tell whether its runs reached the rare cases.
 */
final class PlainModel {
    private static final int NONE = -1, BAD = -2, NO = -3, FULL = -4, SPENT = -5;

    /** A board of THE ROW, and the one to move with it. */
    private record Entry(List<Integer> board, int toMove) { }

    private static final class SpentException extends RuntimeException {
        private static final long serialVersionUID = 1L;
    }

    final Map<String, Integer> met = new HashMap<>();

    private int w = 5;
    private int h = 5;
    private int law = 0;
    private final Map<Integer, List<Integer>> neighbours = new HashMap<>();
    private final List<Entry> row = new ArrayList<>();
    private final List<Integer> acts = new ArrayList<>();
    private final List<int[]> takenAhead = new ArrayList<>();
    private int takenBlack;
    private int takenWhite;
    private int tries;
    private int first = NONE;

    PlainModel() {
        row.add(new Entry(freeBoard(), 1));
    }

    private void note(String what) {
        met.merge(what, 1, Integer::sum);
    }

    private List<Integer> freeBoard() {
        List<Integer> board = new ArrayList<>();
        for (int k = 0; k < w * h; k++) {
            board.add(0);
        }
        return board;
    }

    private Entry now() {
        return row.get(row.size() - 1);
    }

    private List<Integer> boardNow() {
        return now().board();
    }

    private boolean crossing(int k) {
        return 0 <= k && k < w * h;
    }

    private static boolean colourTold(int colour) {
        return colour == 1 || colour == 2;
    }

    private List<Integer> neighbours(int k) {
        return neighbours.computeIfAbsent(k, this::neighboursBySearch);
    }

    private List<Integer> neighboursBySearch(int k) {
        List<Integer> found = new ArrayList<>();
        int column = k % w;
        int line = k / w;
        for (int other = 0; other < w * h; other++) {
            if (Math.abs(other % w - column) + Math.abs(other / w - line) == 1) {
                found.add(other);
            }
        }
        return found;
    }

    /** What hangs together with k of crossings that are one of some kinds. */
    private TreeSet<Integer> together(List<Integer> board, int k, Set<Integer> kinds) {
        TreeSet<Integer> found = new TreeSet<>();
        List<Integer> open = new ArrayList<>(List.of(k));
        while (!open.isEmpty()) {
            int c = open.remove(open.size() - 1);
            if (kinds.contains(board.get(c)) && found.add(c)) {
                open.addAll(neighbours(c));
            }
        }
        return found;
    }

    private TreeSet<Integer> groupAt(List<Integer> board, int k) {
        return together(board, k, Set.of(board.get(k)));
    }

    private TreeSet<Integer> regionAt(List<Integer> board, int colour, int k) {
        return together(board, k, Set.of(0, 3 - colour));
    }

    private TreeSet<Integer> touched(Set<Integer> crossings) {
        TreeSet<Integer> found = new TreeSet<>();
        for (int c : crossings) {
            found.addAll(neighbours(c));
        }
        return found;
    }

    private TreeSet<Integer> breaths(List<Integer> board, Set<Integer> group) {
        TreeSet<Integer> found = touched(group);
        found.removeIf(c -> board.get(c) != 0);
        return found;
    }

    private Set<Set<Integer>> groups(List<Integer> board, int colour) {
        Set<Set<Integer>> found = new HashSet<>();
        for (int k = 0; k < board.size(); k++) {
            if (board.get(k) == colour) {
                found.add(groupAt(board, k));
            }
        }
        return found;
    }

    private Set<Set<Integer>> regions(List<Integer> board, int colour) {
        Set<Set<Integer>> found = new HashSet<>();
        for (int k = 0; k < board.size(); k++) {
            if (board.get(k) != colour) {
                found.add(regionAt(board, colour, k));
            }
        }
        return found;
    }

    /** The board behind a stone, whatever the law says; null if the crossing is not free. */
    private List<Integer> behindStone(List<Integer> board, int colour, int k) {
        if (board.get(k) != 0) {
            return null;
        }
        List<Integer> then = new ArrayList<>(board);
        then.set(k, colour);
        Set<Integer> taken = new HashSet<>();
        for (Set<Integer> group : groups(then, 3 - colour)) {
            if (breaths(then, group).isEmpty()) {
                taken.addAll(group);
            }
        }
        for (int c : taken) {
            then.set(c, 0);
        }
        return then;
    }

    private int reason(List<Entry> boards, int theLaw, int colour, int k) {
        List<Integer> board = boards.get(boards.size() - 1).board();
        List<Integer> then = behindStone(board, colour, k);
        if (then == null) {
            return 1;
        }
        if (breaths(then, groupAt(then, k)).isEmpty()) {
            return 2;
        }
        for (int i = 0; i < boards.size(); i++) {
            Entry entry = boards.get(i);
            boolean counts = switch (theLaw) {
                case 0 -> i == boards.size() - 2;
                case 1 -> true;
                default -> entry.toMove() == 3 - colour;
            };
            if (counts && entry.board().equals(then)) {
                note("refused by law " + theLaw);
                return 3;
            }
        }
        return 0;
    }

    int board(int width, int height, int newLaw) {
        if (width < 2 || width > 7 || height < 2 || height > 7 || newLaw < 0 || newLaw > 2) {
            return BAD;
        }
        int were = acts.size();
        w = width;
        h = height;
        law = newLaw;
        neighbours.clear();
        row.clear();
        acts.clear();
        takenAhead.clear();
        takenBlack = 0;
        takenWhite = 0;
        row.add(new Entry(freeBoard(), 1));
        return were;
    }

    int set(int k, int what, int toMove) {
        if (!crossing(k) || what < 0 || what > 2 || !colourTold(toMove)) {
            return BAD;
        }
        if (!acts.isEmpty()) {
            return NO;
        }
        List<Integer> board = new ArrayList<>(boardNow());
        board.set(k, what);
        for (int colour = 1; colour <= 2; colour++) {
            for (Set<Integer> group : groups(board, colour)) {
                if (breaths(board, group).isEmpty()) {
                    note("set refused for breath");
                    return NO;
                }
            }
        }
        row.set(0, new Entry(board, toMove));
        return 1;
    }

    int lay(int k) {
        if (!crossing(k)) {
            return BAD;
        }
        int colour = now().toMove();
        if (reason(row, law, colour, k) != 0) {
            return NO;
        }
        if (acts.size() >= 120) {
            note("lay FULL");
            return FULL;
        }
        List<Integer> board = boardNow();
        List<Integer> then = behindStone(board, colour, k);
        int taken = 0;
        for (int c = 0; c < then.size(); c++) {
            if (board.get(c) != 0 && then.get(c) == 0) {
                taken++;
            }
        }
        takenAhead.add(new int[] {takenBlack, takenWhite});
        takenBlack += colour == 2 ? taken : 0;
        takenWhite += colour == 1 ? taken : 0;
        acts.add(k);
        row.add(new Entry(then, 3 - colour));
        if (taken > 1) {
            note("many taken");
        }
        return taken;
    }

    int pass() {
        if (acts.size() >= 120) {
            note("pass FULL");
            return FULL;
        }
        takenAhead.add(new int[] {takenBlack, takenWhite});
        acts.add(w * h);
        row.add(new Entry(boardNow(), 3 - now().toMove()));
        return passes();
    }

    private int passes() {
        int many = 0;
        while (many < acts.size() && acts.get(acts.size() - 1 - many) == w * h) {
            many++;
        }
        return many;
    }

    int why(int k) {
        return crossing(k) ? reason(row, law, now().toMove(), k) : BAD;
    }

    int undo() {
        if (acts.isEmpty()) {
            return NO;
        }
        acts.remove(acts.size() - 1);
        row.remove(row.size() - 1);
        int[] taken = takenAhead.remove(takenAhead.size() - 1);
        takenBlack = taken[0];
        takenWhite = taken[1];
        return acts.size();
    }

    int at(int k) {
        return crossing(k) ? boardNow().get(k) : BAD;
    }

    private boolean vital(List<Integer> board, Set<Integer> region, Set<Integer> group) {
        Set<Integer> touches = touched(group);
        boolean touching = false;
        for (int c : region) {
            touching |= touches.contains(c);
            if (board.get(c) == 0 && !touches.contains(c)) {
                return false;
            }
        }
        return touching;
    }

    private int vitalRegions(List<Integer> board, Set<Set<Integer>> regions, Set<Integer> group) {
        int many = 0;
        for (Set<Integer> region : regions) {
            many += vital(board, region, group) ? 1 : 0;
        }
        return many;
    }

    /** Leaves out one group at a time, and begins anew behind each. */
    private Set<Integer> standingStones(List<Integer> board, int colour) {
        Set<Set<Integer>> groups = groups(board, colour);
        Set<Set<Integer>> regions = regions(board, colour);
        boolean again = true;
        int rounds = 0;
        while (again) {
            again = false;
            for (Set<Integer> group : groups) {
                if (vitalRegions(board, regions, group) < 2) {
                    if (vitalRegions(board, regions(board, colour), group) >= 2) {
                        note("left out in a later round");
                    }
                    groups.remove(group);
                    Set<Integer> touches = touched(group);
                    regions.removeIf(region -> region.stream().anyMatch(touches::contains));
                    again = true;
                    rounds++;
                    break;
                }
            }
        }
        Set<Integer> stones = new HashSet<>();
        for (Set<Integer> group : groups) {
            stones.addAll(group);
        }
        if (!stones.isEmpty()) {
            note(rounds == 0 ? "all stand" : "some stand, some not");
        }
        return stones;
    }

    int group(int k, int what) {
        if (!crossing(k) || what < 0 || what > 4) {
            return BAD;
        }
        List<Integer> board = boardNow();
        int colour = board.get(k);
        if (colour == 0) {
            return NO;
        }
        TreeSet<Integer> group = groupAt(board, k);
        return switch (what) {
            case 0 -> group.size();
            case 1 -> breaths(board, group).size();
            case 2 -> group.first();
            case 3 -> vitalRegions(board, regions(board, colour), group);
            default -> standingStones(board, colour).contains(k) ? 1 : 0;
        };
    }

    int breath(int k, int i) {
        if (!crossing(k)) {
            return BAD;
        }
        List<Integer> board = boardNow();
        if (board.get(k) == 0) {
            return NO;
        }
        List<Integer> found = new ArrayList<>(breaths(board, groupAt(board, k)));
        return i >= 0 && i < found.size() ? found.get(i) : NONE;
    }

    int region(int colour, int k, int what) {
        if (!colourTold(colour) || !crossing(k) || what < 0 || what > 4) {
            return BAD;
        }
        List<Integer> board = boardNow();
        if (board.get(k) == colour) {
            return NO;
        }
        TreeSet<Integer> region = regionAt(board, colour, k);
        Set<Integer> touches = touched(region);
        int free = 0;
        int touching = 0;
        int vital = 0;
        for (int c : region) {
            free += board.get(c) == 0 ? 1 : 0;
        }
        for (Set<Integer> group : groups(board, colour)) {
            touching += group.stream().anyMatch(touches::contains) ? 1 : 0;
            vital += vital(board, region, group) ? 1 : 0;
        }
        return switch (what) {
            case 0 -> region.size();
            case 1 -> free;
            case 2 -> touching;
            case 3 -> vital;
            default -> region.first();
        };
    }

    int standing(int colour) {
        return colourTold(colour) ? standingStones(boardNow(), colour).size() : BAD;
    }

    private void oneTry() {
        if (tries == 600) {
            throw new SpentException();
        }
        tries++;
    }

    private static <T> List<T> with(List<T> list, T one) {
        List<T> longer = new ArrayList<>(list);
        longer.add(one);
        return longer;
    }

    private List<Entry> withStone(List<Entry> boards, int colour, int k) {
        List<Integer> board = boards.get(boards.size() - 1).board();
        return with(boards, new Entry(behindStone(board, colour, k), 3 - colour));
    }

    int chase(int k, int n) {
        if (!crossing(k) || n < 1 || n > 20) {
            return BAD;
        }
        int colour = boardNow().get(k);
        if (colour == 0) {
            return NO;
        }
        tries = 0;
        List<Entry> boards = List.of(new Entry(boardNow(), 3 - colour));
        try {
            int told = caught(boards, colour, k, n) ? 1 : 0;
            note("chase " + told + (tries > 1 ? " with tries" : ""));
            return told;
        } catch (SpentException spent) {
            note("chase SPENT");
            return SPENT;
        }
    }

    private boolean caught(List<Entry> boards, int chased, int k, int n) {
        List<Integer> board = boards.get(boards.size() - 1).board();
        TreeSet<Integer> breaths = breaths(board, groupAt(board, k));
        if (breaths.size() == 1 && n >= 1) {
            if (reason(boards, 0, 3 - chased, breaths.first()) != 0) {
                return false;
            }
            oneTry();
            return true;
        }
        if (breaths.size() == 2 && n >= 2) {
            for (int c : breaths) {
                int reason = reason(boards, 0, 3 - chased, c);
                if (reason == 3) {
                    note("chase held up by law 0");
                }
                if (reason == 0) {
                    oneTry();
                    if (everyAnswerFails(withStone(boards, 3 - chased, c), chased, k, n)) {
                        return true;
                    }
                }
            }
        }
        return false;
    }

    private boolean everyAnswerFails(List<Entry> boards, int chased, int k, int n) {
        List<Integer> board = boards.get(boards.size() - 1).board();
        TreeSet<Integer> group = groupAt(board, k);
        TreeSet<Integer> breaths = breaths(board, group);
        if (breaths.size() != 1) {
            throw new IllegalStateException("a chased group has " + breaths.size() + " breaths");
        }
        TreeSet<Integer> taking = new TreeSet<>();
        for (int c : touched(group)) {
            if (board.get(c) == 3 - chased) {
                TreeSet<Integer> last = breaths(board, groupAt(board, c));
                if (last.size() == 1) {
                    taking.add(last.first());
                }
            }
        }
        List<Integer> answers = new ArrayList<>(breaths);
        for (int c : taking) {
            if (c != breaths.first()) {
                answers.add(c);
            }
        }
        boolean answered = false;
        for (int c : answers) {
            int reason = reason(boards, 0, chased, c);
            if (reason == 3) {
                note("answer held up by law 0");
            }
            if (reason == 0) {
                answered = true;
                oneTry();
                if (c != breaths.first()) {
                    note("answer that takes");
                }
                if (!caught(withStone(boards, chased, c), chased, k, n - 1)) {
                    if (c != breaths.first()) {
                        note("answer that takes and saves");
                    }
                    return false;
                }
            }
        }
        note(answered ? "all answers fail" : "no answer");
        return true;
    }

    int fight(int k, int n) {
        if (!crossing(k) || n < 1 || n > 6) {
            return BAD;
        }
        int colour = boardNow().get(k);
        if (colour == 0) {
            return NO;
        }
        tries = 0;
        int[] deciding = {NONE};
        try {
            int told = takenIn(row, colour, k, n, deciding) ? 1 : 0;
            if (told == 1 && colour != now().toMove()) {
                first = deciding[0];
                note(first == w * h ? "first is a pass" : "first is a stone");
            }
            String whose = colour == now().toMove() ? "own" : "other's";
            note("fight " + told + " " + whose + (n > 1 ? ", many acts" : ", one act"));
            return told;
        } catch (SpentException spent) {
            note("fight SPENT");
            return SPENT;
        }
    }

    private boolean takenIn(List<Entry> boards, int colour, int k, int n, int[] deciding) {
        if (n == 0) {
            return false;
        }
        Entry entry = boards.get(boards.size() - 1);
        int mover = entry.toMove();
        List<Integer> able = new ArrayList<>();
        for (int c = 0; c < w * h; c++) {
            if (reason(boards, law, mover, c) == 0) {
                able.add(c);
            }
        }
        able.add(w * h);
        for (int c : able) {
            oneTry();
            List<Entry> then =
                c == w * h ? with(boards, new Entry(entry.board(), 3 - mover)) : withStone(boards, mover, c);
            boolean gone = then.get(then.size() - 1).board().get(k) != colour;
            boolean taken = gone || takenIn(then, colour, k, n - 1, new int[1]);
            if (taken && mover != colour) {
                deciding[0] = c;
                return true;
            }
            if (!taken && mover == colour) {
                return false;
            }
        }
        return mover == colour;
    }

    int tries() {
        return tries;
    }

    int first() {
        return first;
    }

    int points(int colour, int way) {
        if (!colourTold(colour) || way < 0 || way > 1) {
            return BAD;
        }
        List<Integer> board = boardNow();
        int points = 0;
        for (int k = 0; k < board.size(); k++) {
            if (board.get(k) == 0) {
                Set<Integer> seen = new HashSet<>();
                for (int c : touched(groupAt(board, k))) {
                    seen.add(board.get(c));
                }
                seen.remove(0);
                points += seen.equals(Set.of(colour)) ? 1 : 0;
            }
            points += way == 1 && board.get(k) == colour ? 1 : 0;
        }
        return points + (way == 0 ? (colour == 1 ? takenWhite : takenBlack) : 0);
    }

    int count(int what) {
        int black = 0;
        int white = 0;
        for (int stone : boardNow()) {
            black += stone == 1 ? 1 : 0;
            white += stone == 2 ? 1 : 0;
        }
        return switch (what) {
            case 0 -> acts.size();
            case 1 -> now().toMove();
            case 2 -> black;
            case 3 -> white;
            case 4 -> takenBlack;
            case 5 -> takenWhite;
            case 6 -> passes();
            case 7 -> w;
            case 8 -> h;
            case 9 -> law;
            default -> BAD;
        };
    }

    int act(int i) {
        return i >= 0 && i < acts.size() ? acts.get(i) : NONE;
    }

    long digest() {
        long digest = 47;
        List<Integer> values = new ArrayList<>();
        for (int what = 0; what < 10; what++) {
            values.add(count(what));
        }
        values.addAll(boardNow());
        values.addAll(acts);
        for (int value : values) {
            digest = 31 * digest + value;
        }
        return digest;
    }
}
