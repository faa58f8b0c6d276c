/** Promises 15 to 17: letters, isWritten and plain, sentence by sentence. */
public final class WrittenAgainTest extends Checks {
    private static final String LINE = times("YWFh", 19);

    // ---- promise 15: letters ----

    private static void letters(String row, int common, int safe, int lined) {
        Letterloom x = with(row);
        kept(common, x, () -> x.letters(0, 0));
        kept(safe, x, () -> x.letters(0, 1));
        kept(lined, x, () -> x.letters(0, 2));
    }

    static void lettersAnswers() {
        sentence("15 letters: Returns how many letters of a kind a row has");
        letters("TWFu", 4, 4, 4);
        letters("++/-", 3, 1, 3);
        letters("+/-_-", 2, 3, 2);
    }

    static void lettersOfNoneAndOfAll() {
        sentence("15 letters: Returns how many. (none, all that can be)");
        letters("", 0, 0, 0);
        letters(times("=", 320), 0, 0, 0);
        letters(times("a", 320), 320, 320, 320);
    }

    static void lettersAreJustThese() {
        sentence("15 letters: how many letters of a kind (each byte that is none beside those that are)");
        letters("@AZ[`az{/09:", 7, 6, 7);
        letters("*+,-./", 2, 1, 2);
        letters("^_`", 0, 1, 0);
        letters("\0\u0001\u00ff\u00c1\u00e1\u00b0\u00ab\u00af=", 0, 0, 0);
    }

    static void lettersOfEveryByte() {
        sentence("Letters: A to Z, a to z, 0 to 9, '+' and '/'; '-' and '_' in place of the last two");
        String both = "ABCDEFGHIJKLMNOPQRSTUVWXYZabcdefghijklmnopqrstuvwxyz0123456789";
        for (int number = 0; number < 256; number++) {
            String row = "" + (char) number;
            int ofAll = both.contains(row) ? 1 : 0;
            int ofCommon = "+/".contains(row) ? 1 : ofAll;
            letters(row, ofCommon, "-_".contains(row) ? 1 : ofAll, ofCommon);
        }
    }

    static void lettersWhereverTheyStand() {
        sentence("15 letters: wherever they stand");
        letters("AA==AA", 4, 4, 4);
        letters("=A", 1, 1, 1);
        letters("\nA\r==A\n", 2, 2, 2);
        letters("=====A=====A", 2, 2, 2);
    }

    static void lettersNoRow() {
        sentence("15 letters: Throws IndexOutOfBoundsException if there is no such row");
        Letterloom x = with("TWFu");
        noRow(x, row -> x.letters(row, 0));
    }

    static void lettersNoKind() {
        sentence("15 letters: Throws IllegalArgumentException if there is no such kind");
        Letterloom x = with("TWFu");
        noKind(x, kind -> x.letters(0, kind));
        noKind(x, kind -> x.letters(5, kind));
    }

    // ---- promise 16: isWritten ----

    private static void isWritten(String row, boolean common, boolean safe, boolean lined) {
        Letterloom x = with(row);
        kept(common, x, () -> x.isWritten(0, 0));
        kept(safe, x, () -> x.isWritten(0, 1));
        kept(lined, x, () -> x.isWritten(0, 2));
    }

    static void isWrittenWithFilling() {
        sentence("16 isWritten: whether a row is just what a kind writes, with filling");
        isWritten("TQ==", true, true, true);
        isWritten("TWE=", true, true, true);
        isWritten("TWFuTQ==", true, true, true);
    }

    static void isWrittenWithoutFilling() {
        sentence("16 isWritten: or without");
        isWritten("TQ", true, true, true);
        isWritten("TWE", true, true, true);
        isWritten("TWFu", true, true, true);
        isWritten("TWFuTQ", true, true, true);
    }

    static void isWrittenOfNothing() {
        sentence("16 isWritten: just what a kind writes of the bytes that it reads of it (none)");
        isWritten("", true, true, true);
        isWritten("\r\n", false, false, false);
        isWritten("-", false, false, false);
    }

    static void isWrittenByThatKind() {
        sentence("16 isWritten: what a kind writes (another one writes other letters)");
        isWritten("+/+/", true, false, true);
        isWritten("-_-_", false, true, false);
    }

    static void isWrittenInLines() {
        sentence("16 isWritten: just what a kind writes (lines of 76, and nothing behind the last one)");
        isWritten(LINE, true, true, true);
        isWritten(LINE + "YQ==", true, true, false);
        isWritten(LINE + "\r\nYQ==", false, false, true);
        isWritten(LINE + "\r\nYQ", false, false, true);
        isWritten(LINE + "\r\n" + LINE, false, false, true);
        isWritten(LINE + "\r\n", false, false, false);
        isWritten(LINE + "\nYQ==", false, false, false);
        isWritten(LINE + "\rYQ==", false, false, false);
        isWritten(LINE + "\n\rYQ==", false, false, false);
        isWritten("\r\n" + LINE + "YQ==", false, false, false);
        isWritten(times("YWFh", 18) + "\r\nYWFh", false, false, false);
        isWritten(LINE + "YW\r\nFh", false, false, false);
        isWritten(times(LINE + "\r\n", 4) + "YWFhYWFh", false, false, true);
    }

    static void isWrittenWithoutOtherBytes() {
        sentence("16 isWritten: just what a kind writes (no byte that it passes over)");
        isWritten("TQ==\r\n", false, false, false);
        isWritten("\nTQ", false, false, false);
        isWritten("T Q==", false, false, false);
        isWritten("TQ=\n=", false, false, false);
    }

    static void isWrittenOfAFullRow() {
        sentence("16 isWritten: whether a row is just what a kind writes (a full one)");
        isWritten(times("A", 320), true, true, false);
        isWritten(times("A", 319) + "=", true, true, false);
        isWritten(times("A", 318) + "==", true, true, false);
    }

    static void isWrittenOfWhatIsNotRead() {
        sentence("16 isWritten: of the bytes that it reads of it (it reads none of a wrong row, or an untold one)");
        isWritten("A", false, false, false);
        isWritten("TQ=", false, false, false);
        isWritten("TQ===", false, false, false);
        isWritten("TWFu=", false, false, false);
        isWritten("=", false, false, false);
        isWritten("TR", false, false, false);
        isWritten("TR==", false, false, false);
        isWritten("TWF=", false, false, false);
        isWritten("TQ==A", false, false, false);
    }

    static void isWrittenNoRow() {
        sentence("16 isWritten: Throws IndexOutOfBoundsException if there is no such row");
        Letterloom x = with("TWFu");
        noRow(x, row -> x.isWritten(row, 0));
    }

    static void isWrittenNoKind() {
        sentence("16 isWritten: Throws IllegalArgumentException if there is no such kind");
        Letterloom x = with("TWFu");
        noKind(x, kind -> x.isWritten(0, kind));
        noKind(x, kind -> x.isWritten(5, kind));
    }

    // ---- promise 17: plain ----

    private static void plain(String row, int kind, String want) {
        Letterloom x = with(row, "behind");
        due(want.length(), () -> x.plain(0, kind));
        rows(x, want, "behind");
    }

    private static void plainByAll(String row, String want) {
        for (int kind = 0; kind < 3; kind++) {
            plain(row, kind, want);
        }
    }

    static void plainAnswers() {
        sentence("17 plain: Makes a row what a kind writes, with filling, of the bytes that it reads of it.");
        plainByAll("TQ", "TQ==");
        plainByAll("TWE", "TWE=");
        plainByAll("TWFu", "TWFu");
        plainByAll("TWFuTQ", "TWFuTQ==");
        plain("-_8", 1, "-_8=");
        plain("+/8", 0, "+/8=");
    }

    static void plainOfWhatIsPlain() {
        sentence("17 plain: Makes a row what a kind writes, with filling (it is that already)");
        plainByAll("TQ==", "TQ==");
        plainByAll("TWE=", "TWE=");
        plain(LINE + "\r\nYQ==", 2, LINE + "\r\nYQ==");
    }

    static void plainOfNothing() {
        sentence("17 plain: Returns how many bytes it has then. (none)");
        plainByAll("", "");
        plain("\r\n-", 2, "");
        plain(times("-", 320), 2, "");
    }

    static void plainInLines() {
        sentence("17 plain: what a kind writes (lines of 76, and no byte that it passes over)");
        plain("T W\nE", 2, "TWE=");
        plain("TQ==\r\n-", 2, "TQ==");
        plain(LINE, 2, LINE);
        plain(LINE + "YQ", 2, LINE + "\r\nYQ==");
        plain(LINE + "\r\n", 2, LINE);
        plain("\n" + LINE + LINE, 2, LINE + "\r\n" + LINE);
        plain(LINE + "YQ", 0, LINE + "YQ==");
    }

    static void plainUpTo320Bytes() {
        sentence("17 plain: Throws IllegalStateException if it would have more than 320 bytes (it has not)");
        plain(times("A", 320), 0, times("A", 320));
        plain(times("A", 319), 1, times("A", 319) + "=");
        plain(times("A", 318), 0, times("A", 318) + "==");
        plain(times("A", 312), 2, times(times("A", 76) + "\r\n", 4) + "AAAAAAAA");
        plain(times("A", 311), 2, times(times("A", 76) + "\r\n", 4) + "AAAAAAA=");
        plain(times("A", 310), 2, times(times("A", 76) + "\r\n", 4) + "AAAAAA==");
    }

    static void plainMoreThan320Bytes() {
        sentence("17 plain: Throws IllegalStateException if it would have more than 320 bytes");
        Letterloom x = with(times("A", 320), times("A", 314), times("A", 316), times("A", 315), times("A", 314) + "==");
        for (int i = 0; i < 5; i++) {
            int row = i;
            refused(STATE, x, () -> x.plain(row, 2));
        }
        due(320, () -> x.plain(0, 0));
        due(316, () -> x.plain(1, 1));
    }

    static void plainNoRow() {
        sentence("17 plain: Throws IndexOutOfBoundsException if there is no such row");
        Letterloom x = with("TQ");
        noRow(x, row -> x.plain(row, 0));
    }

    static void plainNoKind() {
        sentence("17 plain: Throws IllegalArgumentException if there is no such kind");
        Letterloom x = with("TQ");
        noKind(x, kind -> x.plain(0, kind));
        noKind(x, kind -> x.plain(5, kind));
    }

    static void plainOfARefusedRow() {
        sentence("17 plain: Throws IllegalArgumentException if the row is refused");
        Letterloom x = with("A", "TQ=", "TWFu=", "TWFuT");
        for (int i = 0; i < 12; i++) {
            int row = i / 3;
            int kind = i % 3;
            refused(ARGUMENT, x, () -> x.plain(row, kind));
        }
        rows(x, "A", "TQ=", "TWFu=", "TWFuT");
    }

    static void plainOfARowOfWhichNothingIsTold() {
        sentence("17 plain: Throws UnsupportedOperationException if nothing is told of the row");
        Letterloom x = with("TR", "TWF=", "TWE=A", "TWFuTR==");
        for (int i = 0; i < 12; i++) {
            int row = i / 3;
            int kind = i % 3;
            refused(UNTOLD, x, () -> x.plain(row, kind));
        }
        rows(x, "TR", "TWF=", "TWE=A", "TWFuTR==");
    }

    public static void main(String[] args) {
        runAll(WrittenAgainTest.class);
    }
}
