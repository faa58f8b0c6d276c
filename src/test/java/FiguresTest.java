import java.math.BigInteger;

/** Promises 18 to 21: letterShare, growth, checksum and isTrue, sentence by sentence. */
public final class FiguresTest extends Checks {
    // ---- promise 18: letterShare ----

    private static void share(String row, int kind, float want) {
        Letterloom x = with(row);
        kept(want, x, () -> x.letterShare(0, kind));
    }

    static void letterShareAnswers() {
        sentence("18 letterShare: Returns the share of letters of a kind among the bytes of a row.");
        share("+ab", 0, 1f);
        share("+ab", 1, 2f / 3f);
        share("+ab", 2, 1f);
        share("A=-", 0, 1f / 3f);
        share("A=-", 1, 2f / 3f);
        share("A\n==", 2, 0.25f);
    }

    static void letterShareOfNoneAndOfAll() {
        sentence("18 letterShare: their number divided by that of all (none of them, all of them)");
        for (int kind = 0; kind < 3; kind++) {
            share("=", kind, 0f);
            share(times("=", 320), kind, 0f);
            share("A", kind, 1f);
            share(times("a", 320), kind, 1f);
        }
    }

    static void letterShareIsAFloat() {
        sentence("18 letterShare: both converted to float");
        for (int all = 1; all <= 320; all += 11) {
            for (int letters = 0; letters <= all; letters += 1 + all / 5) {
                share(times("a", letters) + times("=", all - letters), 0, (float) letters / (float) all);
            }
        }
    }

    static void letterShareOfAnEmptyRow() {
        sentence("18 letterShare: Throws ArithmeticException if it is empty");
        Letterloom x = with("", "a");
        for (int i = 0; i < 3; i++) {
            int kind = i;
            refused(EMPTY, x, () -> x.letterShare(0, kind));
        }
        due(0, () -> x.remove(1, 0, 1));
        refused(EMPTY, x, () -> x.letterShare(1, 0));
    }

    static void letterShareNoRow() {
        sentence("18 letterShare: Throws IndexOutOfBoundsException if there is no such row");
        Letterloom x = with("TWFu");
        noRow(x, row -> x.letterShare(row, 0));
    }

    static void letterShareNoKind() {
        sentence("18 letterShare: Throws IllegalArgumentException if there is no such kind");
        Letterloom x = with("TWFu");
        noKind(x, kind -> x.letterShare(0, kind));
    }

    // ---- promise 19: growth ----

    private static void growth(String row, int kind, double want) {
        Letterloom x = with(row);
        kept(want, x, () -> x.growth(0, kind));
    }

    static void growthAnswers() {
        sentence("19 growth: Returns how much longer a row is, written with filling.");
        for (int kind = 0; kind < 3; kind++) {
            growth("a", kind, 4d);
            growth("ab", kind, 2d);
            growth("abc", kind, 4d / 3d);
            growth("abcd", kind, 2d);
            growth("\0\u00ff\n=+", kind, 8d / 5d);
        }
    }

    static void growthByLines() {
        sentence("19 growth: the length that it has written (the kind 2 with its ends of lines)");
        growth(times("a", 57), 2, 76d / 57d);
        growth(times("a", 58), 2, 82d / 58d);
        growth(times("a", 58), 0, 80d / 58d);
        growth(times("a", 58), 1, 80d / 58d);
        growth(times("a", 114), 2, 154d / 114d);
        growth(times("a", 115), 2, 160d / 115d);
    }

    static void growthBeyondARow() {
        sentence("19 growth: the length that it has written divided by its own (more than a row can have)");
        growth(times("a", 240), 0, 320d / 240d);
        growth(times("a", 241), 0, 324d / 241d);
        growth(times("a", 320), 0, 428d / 320d);
        growth(times("a", 320), 1, 428d / 320d);
        growth(times("a", 320), 2, 438d / 320d);
    }

    static void growthOfAnEmptyRow() {
        sentence("19 growth: Throws ArithmeticException if it is empty");
        Letterloom x = with("", "a");
        for (int i = 0; i < 3; i++) {
            int kind = i;
            refused(EMPTY, x, () -> x.growth(0, kind));
        }
        due(0, () -> x.remove(1, 0, 1));
        refused(EMPTY, x, () -> x.growth(1, 2));
    }

    static void growthNoRow() {
        sentence("19 growth: Throws IndexOutOfBoundsException if there is no such row");
        Letterloom x = with("TWFu");
        noRow(x, row -> x.growth(row, 0));
    }

    static void growthNoKind() {
        sentence("19 growth: Throws IllegalArgumentException if there is no such kind");
        Letterloom x = with("TWFu");
        noKind(x, kind -> x.growth(0, kind));
    }

    // ---- promise 20: checksum ----

    private static long sum(String... rows) {
        BigInteger sum = BigInteger.valueOf(7);
        for (int row = 0; row < 6; row++) {
            String bytes = row < rows.length ? rows[row] : "";
            sum = sum.multiply(BigInteger.valueOf(31)).add(BigInteger.valueOf(bytes.length()));
            for (int i = 0; i < bytes.length(); i++) {
                sum = sum.multiply(BigInteger.valueOf(31)).add(BigInteger.valueOf(bytes.charAt(i)));
            }
        }
        return sum.longValue();
    }

    private static void summed(String... rows) {
        Letterloom x = with(rows);
        due(sum(rows), () -> x.checksum());
        due(sum(rows), () -> x.checksum());
    }

    static void checksumOfEmptyRows() {
        sentence("20 checksum: Returns 7 at first, then 31 times itself plus each of: for each row its length");
        Letterloom x = new Letterloom();
        due(7L * 31 * 31 * 31 * 31 * 31 * 31, () -> x.checksum());
        due(6212525767L, () -> x.checksum());
    }

    static void checksumOfLengthsAndBytes() {
        sentence("20 checksum: plus each of: for each row its length and its bytes");
        summed("\u00c8");
        summed("", "", "", "", "", "\u0003");
        summed("ab", "", "c");
        summed("", "ab", "c");
        summed("ba", "c");
        summed("\0");
        summed("\0\0");
        summed("", "\0");
        summed("a", "b", "c", "d", "e", "f");
    }

    static void checksumGoesRound() {
        sentence("20 checksum: a long that goes round");
        for (int many = 1; many <= 16; many++) {
            summed(times("\u00ff", many));
        }
        String full = times("\u00ff", 320);
        summed(full, full, full, full, full, full);
    }

    static void checksumWithoutGoneBytes() {
        sentence("20 checksum: for each row its length and its bytes (those that were taken out are none)");
        Letterloom x = with("abc", "d");
        due(0, () -> x.remove(1, 0, 1));
        due(1, () -> x.remove(0, 0, 2));
        due(sum("c"), () -> x.checksum());
        due(0, () -> x.remove(0, 0, 1));
        due(sum(), () -> x.checksum());
    }

    // ---- promise 21: isTrue ----

    private static void isTrue(String... rows) {
        Letterloom x = with(rows);
        kept(true, x, () -> x.isTrue());
        kept(true, x, () -> x.isTrue());
    }

    static void isTrueOfEmptyRows() {
        sentence("21 isTrue: Checks the theorem for each row and each kind (empty ones)");
        isTrue();
    }

    static void isTrueOfFullRows() {
        sentence("21 isTrue: what is written of it is read as it (of a full row, beyond what a row can have)");
        String full = times("\u00fb\u00ff\u00bf", 107).substring(0, 320);
        isTrue(full, times("\0", 320), times("=", 320), times("a", 320), times("\r\n", 160), full);
    }

    static void isTrueOfEachLength() {
        sentence("21 isTrue: with filling and without, is alike but for filling, and is read as it");
        for (int length = 0; length <= 320; length++) {
            isTrue(times("\u00ff", length), times("+/-_=\r\n", 46).substring(0, length));
        }
    }

    static void isTrueOfEachByte() {
        sentence("21 isTrue: the kinds 0 and 1 write the same but for two letters each");
        for (int number = 0; number < 256; number += 6) {
            String[] rows = new String[6];
            for (int i = 0; i < 6; i++) {
                rows[i] = times("" + (char) (number + i & 255), 1 + i % 3);
            }
            isTrue(rows);
        }
    }

    static void isTrueOfRightRows() {
        sentence("21 isTrue: and the row itself is read, just as told");
        isTrue("TQ==", "TWE", "TWFu", times("A", 320), "+/-_", "TQ==\r\n-");
        isTrue("\r\n", "-_", "-_8=", times("A", 76) + "\r\nAA==", "", times("A", 318) + "==");
    }

    static void isTrueOfRefusedRows() {
        sentence("21 isTrue: or refused, just as told");
        isTrue("A", "TQ=", "TWFu=", "=", "TWFuT", "\nAAA");
        isTrue("TQ===", times("=", 320), "TWE==", times("A", 317), "A\n", "=A");
    }

    static void isTrueOfRowsOfWhichNothingIsTold() {
        sentence("21 isTrue: where it is told (and true where nothing is)");
        isTrue("TR", "TWF=", "TWE=A", "TQ=\n=", "TQ===", "TQ==\n=");
        isTrue("TR==", "TWF", "TWE==", "TWE=\n=", times("A", 319) + "A", "TQ==A");
    }

    public static void main(String[] args) {
        runAll(FiguresTest.class);
    }
}
