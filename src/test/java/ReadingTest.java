/** "Reading" of the Terms and promises 13 and 14, sentence by sentence. */
public final class ReadingTest extends Checks {
    private static final int WRONG = -1;
    private static final int NOTHING = -2;

    /** What look tells, and that the calls that read do just that. */
    private static void told(String row, int kind, int want) {
        Letterloom x = with(row, "before");
        kept(want, x, () -> x.look(0, kind));
        if (want < 0) {
            String exception = want == WRONG ? ARGUMENT : UNTOLD;
            refused(exception, x, () -> x.read(0, 1, kind));
            refused(exception, x, () -> x.read(0, 0, kind));
            refused(exception, x, () -> x.plain(0, kind));
            kept(false, x, () -> x.isWritten(0, kind));
            rows(x, row, "before");
        } else {
            due(want, () -> x.read(0, 1, kind));
            due(want, () -> x.length(1));
            kept(true, x, () -> x.isTrue());
            due(want, () -> x.read(0, 0, kind));
            kept(true, x, () -> x.isLike(0, 1));
        }
        kept(true, x, () -> x.isTrue());
    }

    private static void toldByAll(String row, int common, int safe, int lined) {
        told(row, 0, common);
        told(row, 1, safe);
        told(row, 2, lined);
    }

    private static boolean isLetter(int number, int kind) {
        String letters = "ABCDEFGHIJKLMNOPQRSTUVWXYZabcdefghijklmnopqrstuvwxyz0123456789" + (kind == 1 ? "-_" : "+/");
        return letters.indexOf(number) >= 0;
    }

    // ---- which bytes there may be ----

    static void lettersAreWanted() {
        sentence("Reading: The kinds 0 and 1 want letters of theirs");
        toldByAll("TWFu", 3, 3, 3);
        toldByAll("+/+/", 3, WRONG, 3);
        toldByAll("-_-_", WRONG, 3, 0);
        toldByAll("+-/_", WRONG, WRONG, NOTHING);
        toldByAll("\u00c1AAA", WRONG, WRONG, 2);
    }

    static void everyByteAhead() {
        sentence("Reading: wrong if, by the kinds 0 and 1, a byte ahead of the first '=' is no letter");
        for (int number = 0; number < 256; number++) {
            if (number == '=') {
                continue;
            }
            String row = "AA" + (char) number + "A";
            for (int kind = 0; kind < 2; kind++) {
                told(row, kind, isLetter(number, kind) ? 3 : WRONG);
            }
        }
    }

    static void noLetterFirstOrLast() {
        sentence("Reading: wrong if, by the kinds 0 and 1, a byte ahead of the first '=' is no letter (first, last)");
        for (int kind = 0; kind < 2; kind++) {
            told("\nAAA", kind, WRONG);
            told("AAA\n", kind, WRONG);
            told("AA\n==", kind, WRONG);
            told("AAAA\r\n", kind, WRONG);
            told("\n", kind, WRONG);
            told("\n=", kind, WRONG);
        }
    }

    static void everyByteIsPassedOver() {
        sentence("Reading: the kind 2 passes all bytes over that are neither its letters nor '='");
        for (int number = 0; number < 256; number++) {
            if (number != '=') {
                told("AA" + (char) number + "A", 2, isLetter(number, 2) ? 3 : 2);
            }
        }
    }

    static void passedOverWherever() {
        sentence("Reading: the kind 2 passes all bytes over (first, last, many, ahead of '=', nothing else)");
        told("\nAAAA", 2, 3);
        told("AAAA\n", 2, 3);
        told("A-A_A A", 2, 3);
        told("\r\n\r\n", 2, 0);
        told("\0", 2, 0);
        told("\u00ff", 2, 0);
        told(times("-", 320), 2, 0);
        told("AA\n==", 2, 1);
        told("AAA\n=", 2, 2);
        told(times("A", 76) + "\r\n" + times("A", 4), 2, 60);
    }

    static void nothingIsRightToo() {
        sentence("Reading: All other rows are right (an empty one)");
        toldByAll("", 0, 0, 0);
    }

    // ---- n and m ----

    static void lettersAheadOfTheFirstSign() {
        sentence("Reading: Let n be how many letters there are ahead of the first '=', or in all");
        toldByAll("AA==", 1, 1, 1);
        toldByAll("AA", 1, 1, 1);
        toldByAll("AA=A", WRONG, WRONG, WRONG);
        toldByAll("AAA=A", NOTHING, NOTHING, NOTHING);
        toldByAll("AAAA=AAA", WRONG, WRONG, WRONG);
    }

    static void signsInAll() {
        sentence("Reading: and m how many signs '=' there are in all");
        toldByAll("AA=A=", NOTHING, NOTHING, NOTHING);
        toldByAll("AA=\n=", NOTHING, NOTHING, NOTHING);
        toldByAll("AAA=AAA=", WRONG, WRONG, NOTHING);
        toldByAll("AAA=\n=", WRONG, WRONG, NOTHING);
    }

    // ---- what is wrong ----

    static void oneLetterMoreThanFours() {
        sentence("Reading: wrong if n is 1 more than a multiple of 4");
        toldByAll("A", WRONG, WRONG, WRONG);
        toldByAll("AAAAA", WRONG, WRONG, WRONG);
        toldByAll(times("A", 317), WRONG, WRONG, WRONG);
        toldByAll("A=", WRONG, WRONG, WRONG);
        toldByAll("A==", WRONG, WRONG, WRONG);
        toldByAll("A===", WRONG, WRONG, WRONG);
        toldByAll("AAAAA=", WRONG, WRONG, WRONG);
        told("A\n", 2, WRONG);
        told("-A-\n", 2, WRONG);
        told("\nAAAAA\n==", 2, WRONG);
        told("A=A", 2, WRONG);
    }

    static void signsBehindFours() {
        sentence("Reading: wrong if m is not 0 and n is a multiple of 4");
        toldByAll("=", WRONG, WRONG, WRONG);
        toldByAll("==", WRONG, WRONG, WRONG);
        toldByAll(times("=", 320), WRONG, WRONG, WRONG);
        toldByAll("AAAA=", WRONG, WRONG, WRONG);
        toldByAll("AAAA==", WRONG, WRONG, WRONG);
        toldByAll("AAAA===", WRONG, WRONG, WRONG);
        toldByAll(times("A", 316) + "=", WRONG, WRONG, WRONG);
        toldByAll("=AAAA", WRONG, WRONG, WRONG);
        told("\n=", 2, WRONG);
        told("=\n", 2, WRONG);
        told("AAAA\n=\n", 2, WRONG);
        told("AAAA\n=A=", 2, WRONG);
    }

    static void noSignsBehindFours() {
        sentence("Reading: wrong if m is not 0 and n is a multiple of 4 (m is 0)");
        toldByAll("AAAA", 3, 3, 3);
        toldByAll(times("A", 320), 240, 240, 240);
        told("AAAA\n", 2, 3);
    }

    static void oneSignWhereTwoAreDue() {
        sentence("Reading: wrong if m is 1 and 2 are due");
        toldByAll("AA=", WRONG, WRONG, WRONG);
        toldByAll("AAAAAA=", WRONG, WRONG, WRONG);
        toldByAll(times("A", 318) + "=", WRONG, WRONG, WRONG);
        told("AA=\n", 2, WRONG);
        told("AA\n=", 2, WRONG);
        told("AA=A", 2, WRONG);
    }

    static void moreSignsThanAreDue() {
        sentence("Reading: wrong if, by the kinds 0 and 1, m is more than are due");
        for (int kind = 0; kind < 2; kind++) {
            told("AA===", kind, WRONG);
            told("AA====", kind, WRONG);
            told("AAA==", kind, WRONG);
            told("AAA===", kind, WRONG);
            told("AA=A==", kind, WRONG);
            told("AA==\n=", kind, WRONG);
            told("AAA=A=", kind, WRONG);
            told(times("A", 318) + "==", kind, 238);
            told(times("A", 317) + "===", kind, WRONG);
            told("AA" + times("=", 318), kind, WRONG);
        }
    }

    static void asManySignsAsAreDue() {
        sentence("Reading: 2 signs are due if n is 2 more than a multiple of 4, 1 if it is 3 more, otherwise none");
        toldByAll("AA==", 1, 1, 1);
        toldByAll("AAA=", 2, 2, 2);
        toldByAll("AAAA", 3, 3, 3);
        toldByAll("AAAAAA==", 4, 4, 4);
        toldByAll("AAAAAAA=", 5, 5, 5);
        toldByAll(times("A", 318) + "==", 238, 238, 238);
        toldByAll(times("A", 319) + "=", 239, 239, 239);
    }

    static void noSignsAtAll() {
        sentence("Reading: The kinds 0 and 1 want letters of theirs, and perhaps signs '=' at the end");
        toldByAll("AA", 1, 1, 1);
        toldByAll("AAA", 2, 2, 2);
        toldByAll(times("A", 318), 238, 238, 238);
        toldByAll(times("A", 319), 239, 239, 239);
    }

    static void wrongAheadOfUntold() {
        sentence("Reading: Of another row nothing is told (so a row that is wrong is told as wrong)");
        toldByAll("AB=", WRONG, WRONG, WRONG);
        toldByAll("B", WRONG, WRONG, WRONG);
        toldByAll("AAAB=A", WRONG, WRONG, WRONG);
        for (int kind = 0; kind < 2; kind++) {
            told("AB===", kind, WRONG);
            told("AAB==", kind, WRONG);
            told("\nAB", kind, WRONG);
            told("\nAA==A", kind, WRONG);
            told("AA=\n==", kind, WRONG);
        }
        told("A/", 1, WRONG);
        told("A_", 0, WRONG);
    }

    // ---- of what nothing is told ----

    static void anotherByteBehindTheSign() {
        sentence("Reading: nothing is told if behind the first '=' there is, by the kinds 0 and 1,"
                + " a byte other than '='");
        for (int number = 0; number < 256; number++) {
            for (int kind = 0; kind < 2; kind++) {
                told("AAA=" + (char) number, kind, number == '=' ? WRONG : NOTHING);
            }
        }
        for (int kind = 0; kind < 2; kind++) {
            told("AA==A", kind, NOTHING);
            told("AA==\n", kind, NOTHING);
            told("AA=A=", kind, NOTHING);
            told("AA=\n=", kind, NOTHING);
            told("AA=-_+/=", kind, NOTHING);
            told("AAA=AAAAA", kind, NOTHING);
        }
    }

    static void letterBehindTheSign() {
        sentence("Reading: nothing is told if behind the first '=' there is, by the kind 2, a letter");
        for (int number = 0; number < 256; number++) {
            if (number != '=') {
                told("AAA=" + (char) number, 2, isLetter(number, 2) ? NOTHING : 2);
            }
        }
        told("AA==A", 2, NOTHING);
        told("AA=A=", 2, NOTHING);
        told("AA==\nA", 2, NOTHING);
        told("AA==AAAA", 2, NOTHING);
    }

    static void passedOverWithASignBehind() {
        sentence("Reading: nothing is told if by the kind 2 a byte that is passed over has a '=' behind it");
        told("AA=\n=", 2, NOTHING);
        told("AA=-=", 2, NOTHING);
        told("AA=\r\n=\r\n", 2, NOTHING);
        told("AA==\n=", 2, NOTHING);
    }

    static void passedOverBehindAllSigns() {
        sentence("Reading: or a byte that is passed over with a '=' behind it (there is none behind it)");
        told("AA==\n", 2, 1);
        told("AA==\r\n\u00e9-_ ", 2, 1);
        told("AAA=\n", 2, 2);
        told("AA\n==\n", 2, 1);
        told("\n-AA==" + times("-", 314), 2, 1);
    }

    static void moreSignsThanAreDueByKind2() {
        sentence("Reading: nothing is told if, by the kind 2, m is more than are due");
        told("AA===", 2, NOTHING);
        told("AA====", 2, NOTHING);
        told("AAA==", 2, NOTHING);
        told("AAA===", 2, NOTHING);
        told("AA===\n", 2, NOTHING);
        told("AA" + times("=", 318), 2, NOTHING);
        told(times("A", 318) + "==", 2, 238);
        told(times("A", 315) + "==", 2, NOTHING);
    }

    static void lowestFourBits() {
        sentence("Reading: nothing is told if the last letter has one of its lowest four bits set and n is 2 more");
        String letters = "ABCDEFGHIJKLMNOPQRSTUVWXYZabcdefghijklmnopqrstuvwxyz0123456789";
        for (int worth = 0; worth < letters.length(); worth++) {
            int want = worth % 16 == 0 ? 1 : NOTHING;
            toldByAll("A" + letters.charAt(worth), want, want, want);
        }
        told("A+", 0, NOTHING);
        told("A/", 0, NOTHING);
        told("A-", 1, NOTHING);
        told("A_", 1, NOTHING);
        told("A+", 2, NOTHING);
        told("A/", 2, NOTHING);
    }

    static void lowestTwoBits() {
        sentence("Reading: nothing is told if the last letter has one of its lowest two bits set and n is 3 more");
        String letters = "ABCDEFGHIJKLMNOPQRSTUVWXYZabcdefghijklmnopqrstuvwxyz0123456789";
        for (int worth = 0; worth < letters.length(); worth++) {
            int want = worth % 4 == 0 ? 2 : NOTHING;
            toldByAll("AA" + letters.charAt(worth), want, want, want);
        }
        told("AA+", 0, NOTHING);
        told("AA/", 0, NOTHING);
        told("AA-", 1, NOTHING);
        told("AA_", 1, NOTHING);
        told("AA+", 2, NOTHING);
        told("AA/", 2, NOTHING);
    }

    static void bitsOfTheLastLetterAheadOfTheSign() {
        sentence("Reading: the last letter ahead of the first '=', or in all");
        toldByAll("AB==", NOTHING, NOTHING, NOTHING);
        toldByAll("AAB=", NOTHING, NOTHING, NOTHING);
        toldByAll("AAAAAB==", NOTHING, NOTHING, NOTHING);
        toldByAll(times("A", 317) + "B", NOTHING, NOTHING, NOTHING);
        toldByAll(times("A", 318) + "B=", NOTHING, NOTHING, NOTHING);
        toldByAll("Bg==", 1, 1, 1);
        toldByAll("BBE=", 2, 2, 2);
        toldByAll("BA==", 1, 1, 1);
        toldByAll("BBA=", 2, 2, 2);
        toldByAll("BA", 1, 1, 1);
        toldByAll("ABA", 2, 2, 2);
        told("AB\n", 2, NOTHING);
        told("AB\n==\n", 2, NOTHING);
        told("AAB\n=\n", 2, NOTHING);
        told("A\nQ-", 2, 1);
    }

    static void bitsOfAWholeFour() {
        sentence("Reading: or one of its lowest two and n is 3 more (n is a multiple of 4)");
        toldByAll("AAAB", 3, 3, 3);
        toldByAll("AAAP", 3, 3, 3);
        toldByAll("9999", 3, 3, 3);
        toldByAll(times("9", 320), 240, 240, 240);
    }

    // ---- what is right ----

    private static void read(String row, int kind, String want) {
        Letterloom x = with(row, row, times("z", 320));
        due(want.length(), () -> x.read(0, 2, kind));
        due(want, () -> text(x, 2));
        due(true, () -> x.isLike(0, 1));
        Letterloom y = with(row, "behind");
        due(want.length(), () -> y.read(0, 0, kind));
        rows(y, want, "behind");
    }

    static void bitsAreBytes() {
        sentence("Reading: the bits of the letters are the bytes, the highest ones first");
        for (int kind = 0; kind < 3; kind++) {
            read("TWFu", kind, "Man");
            read("TWFuTWFu", kind, "ManMan");
            read("gAAA", kind, "\u0080\0\0");
            read("AAAB", kind, "\0\0\u0001");
            read("", kind, "");
        }
        read("////", 0, "\u00ff\u00ff\u00ff");
        read("____", 1, "\u00ff\u00ff\u00ff");
        read("////", 2, "\u00ff\u00ff\u00ff");
        read("+/+/", 0, "\u00fb\u00ff\u00bf");
        read("-_-_", 1, "\u00fb\u00ff\u00bf");
    }

    static void whatIsLeftOverIsNoByte() {
        sentence("Reading: what is left over being no byte");
        for (int kind = 0; kind < 3; kind++) {
            read("TQ", kind, "M");
            read("TQ==", kind, "M");
            read("TWE", kind, "Ma");
            read("TWE=", kind, "Ma");
            read("TWFuTQ==", kind, "ManM");
            read("TWFuTWE", kind, "ManMa");
        }
    }

    static void passedOverBytesAreNoBits() {
        sentence("Reading: the bits of the letters are the bytes (those passed over are none)");
        read("T\r\nW-F_u\u00ff", 2, "Man");
        read("TWFu\r\n!YQ==\n", 2, "Mana");
        read("\n\r-_", 2, "");
    }

    // ---- promises 13 and 14: read and look ----

    static void readAFullRow() {
        sentence("13 read: Reads letters as bytes. Returns how many bytes these are. (of a full row)");
        read(times("/", 320), 0, times("\u00ff", 240));
        read(times("_", 320), 1, times("\u00ff", 240));
        read(times("/", 320), 2, times("\u00ff", 240));
        read(times("-", 320), 2, "");
        read(times("A", 318) + "==", 0, times("\0", 238));
        read(times("A", 319) + "=", 1, times("\0", 239));
    }

    static void readAnEmptyRow() {
        sentence("13 read: Returns how many bytes these are. (of an empty row)");
        for (int kind = 0; kind < 3; kind++) {
            read("", kind, "");
        }
    }

    static void readNoRow() {
        sentence("13 read: Throws IndexOutOfBoundsException if there is no such row, for either");
        Letterloom x = with("TWFu", "TQ==");
        noRow(x, row -> x.read(row, 0, 0));
        noRow(x, row -> x.read(0, row, 0));
        noRow(x, row -> x.read(row, row, 0));
    }

    static void readNoKind() {
        sentence("13 read: Throws IllegalArgumentException if there is no such kind");
        Letterloom x = with("TWFu");
        noKind(x, kind -> x.read(0, 0, kind));
        noKind(x, kind -> x.read(0, 1, kind));
        noKind(x, kind -> x.read(5, 5, kind));
    }

    static void readARefusedRow() {
        sentence("13 read: Throws IllegalArgumentException if the row is refused");
        Letterloom x = with("A", "AA=", "before");
        for (int i = 0; i < 3; i++) {
            int kind = i;
            refused(ARGUMENT, x, () -> x.read(0, 2, kind));
            refused(ARGUMENT, x, () -> x.read(1, 1, kind));
        }
        rows(x, "A", "AA=", "before");
    }

    static void readARowOfWhichNothingIsTold() {
        sentence("13 read: Throws UnsupportedOperationException if nothing is told of the row");
        Letterloom x = with("AB", "AAA=A", "before");
        for (int i = 0; i < 3; i++) {
            int kind = i;
            refused(UNTOLD, x, () -> x.read(0, 2, kind));
            refused(UNTOLD, x, () -> x.read(1, 1, kind));
        }
        rows(x, "AB", "AAA=A", "before");
    }

    static void lookAnswers() {
        sentence("14 look: Returns how many bytes, -1 if it is told as wrong, -2 if nothing is told of it.");
        Letterloom x = with("TQ==", "A", "AB", "", times("A", 320));
        for (int i = 0; i < 3; i++) {
            int kind = i;
            kept(1, x, () -> x.look(0, kind));
            kept(-1, x, () -> x.look(1, kind));
            kept(-2, x, () -> x.look(2, kind));
            kept(0, x, () -> x.look(3, kind));
            kept(240, x, () -> x.look(4, kind));
        }
    }

    static void lookNoRow() {
        sentence("14 look: Throws IndexOutOfBoundsException if there is no such row");
        Letterloom x = with("TWFu");
        noRow(x, row -> x.look(row, 0));
    }

    static void lookNoKind() {
        sentence("14 look: Throws IllegalArgumentException if there is no such kind");
        Letterloom x = with("TWFu");
        noKind(x, kind -> x.look(0, kind));
        noKind(x, kind -> x.look(5, kind));
    }

    public static void main(String[] args) {
        runAll(ReadingTest.class);
    }
}
