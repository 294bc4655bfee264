import java.io.IOException;
import java.io.UncheckedIOException;
import java.nio.file.Files;
import java.nio.file.Path;

/** Counts what the tests found, and makes boards from pictures. */
final class Checks {
    static final int BLACK = 1, WHITE = 2;
    private static final Path DOCUMENT = Path.of("../shared/DOC.md");

    private final String name;
    private String sentence = "";
    private int right;
    private int wrong;

    Checks(String name) {
        this.name = name;
    }

    void due(String call, long got, long want) {
        if (got == want) {
            right++;
        } else {
            wrong++;
            System.out.println(name + sentence + ": " + call + " answered " + got + ", due is " + want);
        }
    }

    /** The test of one sentence of the document, told in the document's words. */
    void sentence(String words, Runnable test) {
        sentence = ", '" + words + "'";
        due("the document has the sentence", documentSays(words) ? 1 : 0, 1);
        int before = right + wrong;
        test.run();
        due("the sentence has a test", right + wrong > before ? 1 : 0, 1);
        sentence = "";
    }

    /** Where the document does not lie beside the checkout, its words can't be compared. */
    private static boolean documentSays(String words) {
        if (!Files.exists(DOCUMENT)) {
            return true;
        }
        try {
            return Files.readString(DOCUMENT).replaceAll("\\s+", " ").contains(words);
        } catch (IOException unread) {
            throw new UncheckedIOException(unread);
        }
    }

    /** What count() tells, from 0 on. */
    void counts(String when, EyeBoard x, int... want) {
        for (int what = 0; what < want.length; what++) {
            due(when + ", count(" + what + ")", x.count(what), want[what]);
        }
    }

    /** What group() tells, from 0 on. */
    void groupIs(EyeBoard x, int k, int... want) {
        for (int what = 0; what < want.length; what++) {
            due("group(" + k + ", " + what + ")", x.group(k, what), want[what]);
        }
    }

    /** What region() tells, from 0 on. */
    void regionIs(EyeBoard x, int colour, int k, int... want) {
        for (int what = 0; what < want.length; what++) {
            due("region(" + colour + ", " + k + ", " + what + ")", x.region(colour, k, what), want[what]);
        }
    }

    void chaseIs(EyeBoard x, int k, int n, int told, int tries) {
        long before = x.digest();
        due("chase(" + k + ", " + n + ")", x.chase(k, n), told);
        due("tries() of chase(" + k + ", " + n + ")", x.tries(), tries);
        due("digest() behind chase(" + k + ", " + n + ")", x.digest(), before);
    }

    void fightIs(EyeBoard x, int k, int n, int told, int tries) {
        long before = x.digest();
        due("fight(" + k + ", " + n + ")", x.fight(k, n), told);
        due("tries() of fight(" + k + ", " + n + ")", x.tries(), tries);
        due("digest() behind fight(" + k + ", " + n + ")", x.digest(), before);
    }

    /** Prints what was found, and ends the program with 1 if an answer was wrong. */
    void end() {
        System.out.println(name + ": " + right + " answers as due, " + wrong + " not");
        if (wrong != 0 || right == 0) {
            System.exit(1);
        }
    }

    /** A board from its lines: '.' free, 'X' black, 'O' white. */
    EyeBoard picture(int law, int toMove, String... lines) {
        EyeBoard x = new EyeBoard();
        int w = lines[0].length();
        due("board of a picture", x.board(w, lines.length, law), 0);
        for (int line = 0; line < lines.length; line++) {
            for (int column = 0; column < w; column++) {
                int what = ".XO".indexOf(lines[line].charAt(column));
                due("set of a picture", x.set(line * w + column, what, toMove), 1);
            }
        }
        return x;
    }

    /** The whole board against a picture of it. */
    void looksLike(String call, EyeBoard x, String... lines) {
        StringBuilder seen = new StringBuilder();
        StringBuilder want = new StringBuilder();
        int w = lines[0].length();
        for (int line = 0; line < lines.length; line++) {
            want.append(lines[line]).append('/');
            for (int column = 0; column < w; column++) {
                int what = x.at(line * w + column);
                seen.append(what < 0 || what > 2 ? '?' : ".XO".charAt(what));
            }
            seen.append('/');
        }
        boolean same = seen.toString().equals(want.toString());
        due(call + " left " + seen + " for " + want, same ? 1 : 0, 1);
    }
}
