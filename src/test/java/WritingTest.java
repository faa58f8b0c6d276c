/** "Letters" and the lines of the Terms and promises 11 and 12, sentence by sentence. */
public final class WritingTest extends Checks {
    private static final String COMMON = "ABCDEFGHIJKLMNOPQRSTUVWXYZabcdefghijklmnopqrstuvwxyz0123456789";
    private static final String LINE = times("YWFh", 19);

    private interface Way {
        int call(Letterloom x, int row, int to, int kind, boolean isFilled);
    }

    private static final Way[] WAYS = {Letterloom::write, Letterloom::writeText};

    /** Both ways, to another row and to the same one. */
    private static void written(String bytes, int kind, boolean isFilled, String want) {
        for (Way way : WAYS) {
            Letterloom x = with(bytes, "", "before");
            due(want.length(), () -> way.call(x, 0, 2, kind, isFilled));
            due(want, () -> text(x, 2));
            Letterloom y = with(bytes, "behind");
            due(want.length(), () -> way.call(y, 0, 0, kind, isFilled));
            rows(y, want, "behind");
        }
    }

    private static void writtenByAll(String bytes, boolean isFilled, String want) {
        for (int kind = 0; kind < 3; kind++) {
            written(bytes, kind, isFilled, want);
        }
    }

    // ---- letters ----

    /** Bytes of which all letters are written, in their order. */
    private static String bytesOfAllLetters() {
        StringBuilder bytes = new StringBuilder();
        for (int worth = 0; worth < 64; worth += 4) {
            int bits = worth << 18 | worth + 1 << 12 | worth + 2 << 6 | worth + 3;
            bytes.append((char) (bits >> 16)).append((char) (bits >> 8 & 255)).append((char) (bits & 255));
        }
        return bytes.toString();
    }

    static void lettersOfKind0() {
        sentence("Letters: of the kind 0 are A to Z, a to z, 0 to 9, '+' and '/', worth 0 to 63 in this order");
        written(bytesOfAllLetters(), 0, true, COMMON + "+/");
    }

    static void lettersOfKind1() {
        sentence("Letters: those of the kind 1 have '-' and '_' in place of the last two");
        written(bytesOfAllLetters(), 1, true, COMMON + "-_");
    }

    static void lettersOfKind2() {
        sentence("Letters: those of the kind 2 are those of the kind 0");
        written(bytesOfAllLetters(), 2, true, COMMON + "+/");
    }

    static void threeBytes() {
        sentence("Letters: Of each three bytes, the first one as the highest 8 of 24 bits, four letters,"
                + " the highest 6 bits first");
        for (int i = 0; i < 2; i++) {
            boolean isFilled = i == 0;
            writtenByAll("Man", isFilled, "TWFu");
            writtenByAll("\u0080\0\0", isFilled, "gAAA");
            writtenByAll("\0\0\u0001", isFilled, "AAAB");
            writtenByAll("\u0003\0\0", isFilled, "AwAA");
            writtenByAll("ManMan", isFilled, "TWFuTWFu");
        }
    }

    static void oneByteAtLast() {
        sentence("Letters: of a last one byte two letters, the bits that are missing being 0");
        writtenByAll("M", false, "TQ");
        writtenByAll("ManM", false, "TWFuTQ");
        writtenByAll("\0", false, "AA");
        written("\u00ff", 0, false, "/w");
        written("\u00ff", 1, false, "_w");
        written("\u00ff", 2, false, "/w");
    }

    static void twoBytesAtLast() {
        sentence("Letters: of a last two bytes three letters, the bits that are missing being 0");
        writtenByAll("Ma", false, "TWE");
        writtenByAll("ManMa", false, "TWFuTWE");
        writtenByAll("\0\0", false, "AAA");
        written("\u00ff\u00ff", 0, false, "//8");
        written("\u00ff\u00ff", 1, false, "__8");
        written("\u00ff\u00ff", 2, false, "//8");
    }

    static void fillingBehindOneByte() {
        sentence("Letters: with filling, two signs '=' behind them (one byte at last)");
        writtenByAll("M", true, "TQ==");
        writtenByAll("ManM", true, "TWFuTQ==");
        writtenByAll("\0", true, "AA==");
    }

    static void fillingBehindTwoBytes() {
        sentence("Letters: with filling, one sign '=' behind them (two bytes at last)");
        writtenByAll("Ma", true, "TWE=");
        writtenByAll("ManMa", true, "TWFuTWE=");
        writtenByAll("\0\0", true, "AAA=");
    }

    static void nothingIsWrittenOfNothing() {
        sentence("Letters: Of each three bytes four letters are written (of an empty row none)");
        writtenByAll("", true, "");
        writtenByAll("", false, "");
    }

    static void goneBytesAreNoBits() {
        sentence("Letters: the bits that are missing being 0 (whatever was there before)");
        for (Way way : WAYS) {
            Letterloom x = with("M\u00ff\u00ff", "Ma\u00ff", "\u00ff");
            due(1, () -> x.remove(0, 1, 2));
            due(2, () -> x.remove(1, 2, 1));
            due(0, () -> x.remove(2, 0, 1));
            due(4, () -> way.call(x, 0, 3, 0, true));
            due(3, () -> way.call(x, 1, 4, 1, false));
            due(0, () -> way.call(x, 2, 5, 2, true));
            rows(x, "M", "Ma", "", "TQ==", "TWE", "");
        }
    }

    // ---- lines ----

    static void linesOf76Signs() {
        sentence("Lines: The kind 2 writes lines of 76 such signs, with the bytes 13 and 10 between two lines.");
        written(times("a", 58), 2, true, LINE + "\r\nYQ==");
        written(times("a", 58), 2, false, LINE + "\r\nYQ");
        written(times("a", 59), 2, true, LINE + "\r\nYWE=");
        written(times("a", 59), 2, false, LINE + "\r\nYWE");
        written(times("a", 115), 2, false, LINE + "\r\n" + LINE + "\r\nYQ");
        written(times("a", 172), 2, true, times(LINE + "\r\n", 3) + "YQ==");
    }

    static void lastLineShorter() {
        sentence("Lines: the last one shorter");
        written("a", 2, true, "YQ==");
        written(times("a", 54), 2, true, times("YWFh", 18));
        written(times("a", 56), 2, false, times("YWFh", 18) + "YWE");
        written(times("a", 55), 2, false, times("YWFh", 18) + "YQ");
        written(times("a", 60), 2, true, LINE + "\r\nYWFh");
    }

    static void lastLineAsLong() {
        sentence("Lines: the last one as long (and nothing behind it)");
        written(times("a", 57), 2, true, LINE);
        written(times("a", 57), 2, false, LINE);
        written(times("a", 114), 2, true, LINE + "\r\n" + LINE);
        written(times("a", 114), 2, false, LINE + "\r\n" + LINE);
        written(times("a", 228), 2, false, times(LINE + "\r\n", 3) + LINE);
    }

    static void fillingIsInTheLine() {
        sentence("Lines: lines of 76 such signs (the filling among them)");
        written(times("a", 56), 2, true, times("YWFh", 18) + "YWE=");
        written(times("a", 55), 2, true, times("YWFh", 18) + "YQ==");
        written(times("a", 113), 2, true, LINE + "\r\n" + times("YWFh", 18) + "YWE=");
    }

    static void onlyKind2WritesLines() {
        sentence("Lines: The kind 2 writes lines (and no other kind)");
        for (int kind = 0; kind < 2; kind++) {
            written(times("a", 58), kind, true, LINE + "YQ==");
            written(times("a", 58), kind, false, LINE + "YQ");
            written(times("a", 115), kind, true, LINE + LINE + "YQ==");
        }
    }

    // ---- promises 11 and 12: write and writeText ----

    static void upTo320Bytes() {
        sentence("11, 12: Throws IllegalStateException if it would have more than 320 bytes (it has not)");
        written(times("a", 240), 0, true, times("YWFh", 80));
        written(times("a", 240), 1, false, times("YWFh", 80));
        written(times("a", 239), 0, true, times("YWFh", 79) + "YWE=");
        written(times("a", 239), 1, false, times("YWFh", 79) + "YWE");
        written(times("a", 234), 2, true, times(LINE + "\r\n", 4) + "YWFhYWFh");
        written(times("a", 233), 2, true, times(LINE + "\r\n", 4) + "YWFhYWE=");
        written(times("a", 234), 2, false, times(LINE + "\r\n", 4) + "YWFhYWFh");
    }

    static void moreThan320Bytes() {
        sentence("11, 12: Throws IllegalStateException if it would have more than 320 bytes");
        Letterloom x = with(times("a", 241), times("a", 235), times("a", 320), "before");
        for (Way way : WAYS) {
            for (int i = 0; i < 4; i++) {
                int kind = i % 2;
                boolean isFilled = i < 2;
                refused(STATE, x, () -> way.call(x, 0, 3, kind, isFilled));
                refused(STATE, x, () -> way.call(x, 0, 0, kind, isFilled));
                refused(STATE, x, () -> way.call(x, 1, 3, 2, isFilled));
                refused(STATE, x, () -> way.call(x, 1, 1, 2, isFilled));
                refused(STATE, x, () -> way.call(x, 2, 2, kind, isFilled));
            }
            refused(STATE, x, () -> way.call(x, 2, 3, 2, true));
        }
    }

    static void whatIsWrittenTakesTheRowsPlace() {
        sentence("11, 12: to: the row that becomes what the first one is");
        for (Way way : WAYS) {
            Letterloom x = with("M", times("z", 320), "");
            due(4, () -> way.call(x, 0, 1, 0, true));
            due(0, () -> way.call(x, 2, 0, 0, true));
            rows(x, "", "TQ==");
        }
    }

    static void writesWhatItWrote() {
        sentence("11, 12: to: perhaps the same one (once more)");
        for (Way way : WAYS) {
            Letterloom x = with("M");
            due(4, () -> way.call(x, 0, 0, 0, true));
            due(8, () -> way.call(x, 0, 0, 0, true));
            due(11, () -> way.call(x, 0, 0, 0, false));
            rows(x, "VkZFOVBRPT0");
        }
    }

    static void noSuchRow() {
        sentence("11, 12: Throws IndexOutOfBoundsException if there is no such row, for either");
        Letterloom x = with("abc");
        for (Way way : WAYS) {
            noRow(x, row -> way.call(x, row, 0, 0, true));
            noRow(x, row -> way.call(x, 0, row, 1, false));
            noRow(x, row -> way.call(x, row, row, 2, true));
        }
    }

    static void noSuchKind() {
        sentence("11, 12: Throws IllegalArgumentException if there is no such kind");
        Letterloom x = with("abc");
        for (Way way : WAYS) {
            noKind(x, kind -> way.call(x, 0, 0, kind, true));
            noKind(x, kind -> way.call(x, 0, 1, kind, false));
            noKind(x, kind -> way.call(x, 5, 5, kind, true));
        }
    }

    public static void main(String[] args) {
        runAll(WritingTest.class);
    }
}
