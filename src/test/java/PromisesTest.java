import java.nio.charset.StandardCharsets;

/** Each promise by itself: ordinary inputs, the edges that the document names, and wrong inputs. */
public final class PromisesTest {
    private static final String ROW = "IndexOutOfBoundsException";
    private static final String ARGUMENT = "IllegalArgumentException";
    private static final String STATE = "IllegalStateException";
    private static final String UNTOLD = "UnsupportedOperationException";
    private static final String EMPTY = "ArithmeticException";

    private static int wrong = 0;
    private static int promise = 0;

    private interface Call {
        Object answer();
    }

    private static void due(Object want, Call call) {
        Object got;
        try {
            got = call.answer();
        } catch (RuntimeException e) {
            got = e.getClass().getSimpleName();
        }
        if (!want.equals(got)) {
            wrong++;
            StackTraceElement at = new Throwable().getStackTrace()[1];
            System.out.println("promise " + promise + ", line " + at.getLineNumber()
                    + ": answered " + got + ", due is " + want);
        }
    }

    /** The call is due to throw, and to change nothing. */
    private static void refused(String want, Letterloom x, Call call) {
        long before = x.checksum();
        due(want, call);
        due(before, () -> x.checksum());
    }

    private static void fill(Letterloom x, int row, String text) {
        x.remove(row, 0, x.length(row));
        for (byte b : text.getBytes(StandardCharsets.ISO_8859_1)) {
            x.add(row, b & 255);
        }
    }

    private static String text(Letterloom x, int row) {
        StringBuilder text = new StringBuilder();
        for (int i = 0; i < x.length(row); i++) {
            text.append((char) x.get(row, i));
        }
        return text.toString();
    }

    private static Letterloom with(String... rows) {
        Letterloom x = new Letterloom();
        for (int i = 0; i < rows.length; i++) {
            fill(x, i, rows[i]);
        }
        return x;
    }

    private static String times(String text, int many) {
        return text.repeat(many);
    }

    private static void newObject() {
        promise = 1;
        Letterloom x = new Letterloom();
        for (int i = 0; i < 6; i++) {
            int row = i;
            due(0, () -> x.length(row));
        }
        due(ROW, () -> x.length(6));
        Letterloom y = new Letterloom();
        y.add(0, 1);
        due(0, () -> x.length(0));
    }

    private static void add() {
        promise = 2;
        Letterloom x = new Letterloom();
        due(1, () -> x.add(0, 0));
        due(2, () -> x.add(0, 255));
        due(1, () -> x.add(5, 7));
        due(0, () -> x.get(0, 0));
        due(255, () -> x.get(0, 1));
        due(0, () -> x.length(1));
        refused(ROW, x, () -> x.add(-1, 0));
        refused(ROW, x, () -> x.add(6, 256));
        refused(ROW, x, () -> x.add(Integer.MIN_VALUE, 0));
        refused(ROW, x, () -> x.add(Integer.MAX_VALUE, 0));
        refused(ARGUMENT, x, () -> x.add(0, -1));
        refused(ARGUMENT, x, () -> x.add(0, 256));
        refused(ARGUMENT, x, () -> x.add(0, Integer.MIN_VALUE));
        fill(x, 0, times("a", 319));
        due(320, () -> x.add(0, 1));
        refused(STATE, x, () -> x.add(0, 1));
        refused(ARGUMENT, x, () -> x.add(0, 256));
        due(1, () -> x.get(0, 319));
    }

    private static void addMore() {
        promise = 3;
        Letterloom x = new Letterloom();
        due(8, () -> x.addMore(0, 8, 1, 2, 3, 4, 5, 6, 7, 255));
        due("\u0001\u0002\u0003\u0004\u0005\u0006\u0007\u00ff", () -> text(x, 0));
        due(9, () -> x.addMore(0, 1, 9, -1, 256, -1, 256, -1, 256, -1));
        due(9, () -> x.get(0, 8));
        due(2, () -> x.addMore(1, 2, 0, 255, 256, -1, -1, -1, -1, -1));
        refused(ROW, x, () -> x.addMore(6, 9, 0, 0, 0, 0, 0, 0, 0, 0));
        refused(ROW, x, () -> x.addMore(-1, 1, 0, 0, 0, 0, 0, 0, 0, 0));
        refused(ARGUMENT, x, () -> x.addMore(0, 0, 0, 0, 0, 0, 0, 0, 0, 0));
        refused(ARGUMENT, x, () -> x.addMore(0, 9, 0, 0, 0, 0, 0, 0, 0, 0));
        refused(ARGUMENT, x, () -> x.addMore(0, Integer.MIN_VALUE, 0, 0, 0, 0, 0, 0, 0, 0));
        refused(ARGUMENT, x, () -> x.addMore(0, Integer.MAX_VALUE, 0, 0, 0, 0, 0, 0, 0, 0));
        refused(ARGUMENT, x, () -> x.addMore(0, 8, 0, 0, 0, 0, 0, 0, 0, 256));
        refused(ARGUMENT, x, () -> x.addMore(0, 8, -1, 0, 0, 0, 0, 0, 0, 0));
        refused(ARGUMENT, x, () -> x.addMore(0, 3, 0, 0, 256, 0, 0, 0, 0, 0));
        fill(x, 0, times("a", 313));
        refused(STATE, x, () -> x.addMore(0, 8, 0, 0, 0, 0, 0, 0, 0, 0));
        refused(ARGUMENT, x, () -> x.addMore(0, 8, 0, 0, 0, 0, 0, 0, 0, -1));
        due(320, () -> x.addMore(0, 7, 0, 0, 0, 0, 0, 0, 5, 0));
        due(5, () -> x.get(0, 319));
        refused(STATE, x, () -> x.addMore(0, 1, 0, 0, 0, 0, 0, 0, 0, 0));
    }

    private static void put() {
        promise = 4;
        Letterloom x = with("abc");
        due(97, () -> x.put(0, 0, 255));
        due(255, () -> x.put(0, 0, 0));
        due(99, () -> x.put(0, 2, 120));
        due("\0bx", () -> text(x, 0));
        refused(ROW, x, () -> x.put(6, 0, 0));
        refused(ROW, x, () -> x.put(-1, 0, 256));
        refused(ROW, x, () -> x.put(0, 3, 0));
        refused(ROW, x, () -> x.put(0, -1, -1));
        refused(ROW, x, () -> x.put(1, 0, 0));
        refused(ROW, x, () -> x.put(0, Integer.MAX_VALUE, 0));
        refused(ROW, x, () -> x.put(0, Integer.MIN_VALUE, 0));
        refused(ARGUMENT, x, () -> x.put(0, 0, 256));
        refused(ARGUMENT, x, () -> x.put(0, 0, -1));
    }

    private static void insert() {
        promise = 5;
        Letterloom x = new Letterloom();
        due(1, () -> x.insert(0, 0, 'b'));
        due(2, () -> x.insert(0, 0, 'a'));
        due(3, () -> x.insert(0, 2, 'd'));
        due(4, () -> x.insert(0, 2, 'c'));
        due("abcd", () -> text(x, 0));
        refused(ROW, x, () -> x.insert(0, 5, 0));
        refused(ROW, x, () -> x.insert(0, -1, 0));
        refused(ROW, x, () -> x.insert(6, 0, 0));
        refused(ROW, x, () -> x.insert(0, 5, 256));
        refused(ROW, x, () -> x.insert(0, Integer.MAX_VALUE, 0));
        refused(ARGUMENT, x, () -> x.insert(0, 4, 256));
        refused(ARGUMENT, x, () -> x.insert(0, 0, -1));
        fill(x, 0, times("a", 319));
        due(320, () -> x.insert(0, 0, 'x'));
        due("x" + times("a", 319), () -> text(x, 0));
        refused(STATE, x, () -> x.insert(0, 320, 0));
        refused(STATE, x, () -> x.insert(0, 0, 0));
        refused(ARGUMENT, x, () -> x.insert(0, 0, 256));
        refused(ROW, x, () -> x.insert(0, 321, 0));
    }

    private static void remove() {
        promise = 6;
        Letterloom x = with("abcdef");
        due(4, () -> x.remove(0, 1, 2));
        due("adef", () -> text(x, 0));
        due(4, () -> x.remove(0, 4, 0));
        due(4, () -> x.remove(0, 0, 0));
        due(3, () -> x.remove(0, 3, 1));
        due("ade", () -> text(x, 0));
        refused(ROW, x, () -> x.remove(6, 0, 0));
        refused(ROW, x, () -> x.remove(-1, 0, 0));
        refused(ROW, x, () -> x.remove(0, 0, 4));
        refused(ROW, x, () -> x.remove(0, 0, -1));
        refused(ROW, x, () -> x.remove(0, -1, 1));
        refused(ROW, x, () -> x.remove(0, 3, 1));
        refused(ROW, x, () -> x.remove(0, 4, 0));
        refused(ROW, x, () -> x.remove(0, -1, 0));
        refused(ROW, x, () -> x.remove(0, 1, Integer.MAX_VALUE));
        refused(ROW, x, () -> x.remove(0, Integer.MAX_VALUE, Integer.MAX_VALUE));
        refused(ROW, x, () -> x.remove(0, Integer.MIN_VALUE, 1));
        refused(ROW, x, () -> x.remove(0, 2, Integer.MIN_VALUE));
        due(0, () -> x.remove(0, 0, 3));
        due(0, () -> x.remove(0, 0, 0));
        refused(ROW, x, () -> x.remove(0, 0, 1));
        fill(x, 1, times("a", 320));
        due(0, () -> x.remove(1, 0, 320));
        due(1, () -> x.add(1, 'b'));
        due("b", () -> text(x, 1));
    }

    private static void lengthAndGet() {
        promise = 7;
        Letterloom x = with("abc", "", times("z", 320));
        due(3, () -> x.length(0));
        due(0, () -> x.length(1));
        due(320, () -> x.length(2));
        refused(ROW, x, () -> x.length(6));
        refused(ROW, x, () -> x.length(-1));
        promise = 8;
        due(97, () -> x.get(0, 0));
        due(99, () -> x.get(0, 2));
        due(122, () -> x.get(2, 319));
        refused(ROW, x, () -> x.get(0, 3));
        refused(ROW, x, () -> x.get(0, -1));
        refused(ROW, x, () -> x.get(2, 320));
        refused(ROW, x, () -> x.get(1, 0));
        refused(ROW, x, () -> x.get(6, 0));
        refused(ROW, x, () -> x.get(-1, 0));
        refused(ROW, x, () -> x.get(Integer.MIN_VALUE, Integer.MAX_VALUE));
    }

    private static void copyAndIsLike() {
        promise = 9;
        Letterloom x = with("abc", "longer than that");
        due(3, () -> x.copy(0, 1));
        due("abc", () -> text(x, 1));
        due(3, () -> x.copy(0, 0));
        due("abc", () -> text(x, 0));
        due(0, () -> x.copy(2, 1));
        due("", () -> text(x, 1));
        x.copy(0, 5);
        x.put(5, 0, 'z');
        due("abc", () -> text(x, 0));
        refused(ROW, x, () -> x.copy(0, 6));
        refused(ROW, x, () -> x.copy(6, 0));
        refused(ROW, x, () -> x.copy(-1, 0));
        refused(ROW, x, () -> x.copy(0, -1));
        promise = 10;
        Letterloom y = with("abc", "abc", "abd", "ab", "");
        due(true, () -> y.isLike(0, 1));
        due(true, () -> y.isLike(0, 0));
        due(true, () -> y.isLike(4, 5));
        due(false, () -> y.isLike(0, 2));
        due(false, () -> y.isLike(0, 3));
        due(false, () -> y.isLike(3, 0));
        due(false, () -> y.isLike(4, 0));
        refused(ROW, y, () -> y.isLike(0, 6));
        refused(ROW, y, () -> y.isLike(6, 0));
        refused(ROW, y, () -> y.isLike(-1, 0));
        refused(ROW, y, () -> y.isLike(0, -1));
    }

    private interface Writing {
        int written(Letterloom x, int row, int to, int kind, boolean isFilled);
    }

    private static void written(Writing way, String bytes, int kind, boolean isFilled, String want) {
        Letterloom x = with(bytes, "before");
        due(want.length(), () -> way.written(x, 0, 1, kind, isFilled));
        due(want, () -> text(x, 1));
        due(bytes, () -> text(x, 0));
        due(want.length(), () -> way.written(x, 0, 0, kind, isFilled));
        due(want, () -> text(x, 0));
    }

    private static void writing(Writing way) {
        for (int kind = 0; kind < 3; kind++) {
            written(way, "", kind, true, "");
            written(way, "", kind, false, "");
            written(way, "M", kind, true, "TQ==");
            written(way, "M", kind, false, "TQ");
            written(way, "Ma", kind, true, "TWE=");
            written(way, "Ma", kind, false, "TWE");
            written(way, "Man", kind, true, "TWFu");
            written(way, "Man", kind, false, "TWFu");
            written(way, "\0\0\0\0", kind, true, "AAAAAA==");
        }
        written(way, "\u00fb\u00ff\u00fe", 0, true, "+//+");
        written(way, "\u00fb\u00ff\u00fe", 1, true, "-__-");
        written(way, "\u00fb\u00ff\u00fe", 2, true, "+//+");
        String line = times("YWFh", 19);
        written(way, times("a", 57), 2, true, line);
        written(way, times("a", 58), 2, true, line + "\r\nYQ==");
        written(way, times("a", 58), 2, false, line + "\r\nYQ");
        written(way, times("a", 56), 2, true, times("YWFh", 18) + "YWE=");
        written(way, times("a", 56), 2, false, times("YWFh", 18) + "YWE");
        written(way, times("a", 114), 2, true, line + "\r\n" + line);
        written(way, times("a", 115), 2, false, line + "\r\n" + line + "\r\nYQ");
        written(way, times("a", 58), 0, true, line + "YQ==");
        written(way, times("a", 240), 0, true, times("YWFh", 80));
        written(way, times("a", 240), 1, false, times("YWFh", 80));
        written(way, times("a", 239), 0, false, times("YWFh", 79) + "YWE");
        written(way, times("a", 234), 2, true, times(line + "\r\n", 4) + "YWFhYWFh");
        allLetters(way);
        afterRemoving(way);
        refusedWriting(way);
    }

    private static void allLetters(Writing way) {
        String common = "ABCDEFGHIJKLMNOPQRSTUVWXYZabcdefghijklmnopqrstuvwxyz0123456789";
        StringBuilder bytes = new StringBuilder();
        for (int worth = 0; worth < 64; worth += 4) {
            int bits = worth << 18 | worth + 1 << 12 | worth + 2 << 6 | worth + 3;
            bytes.append((char) (bits >> 16)).append((char) (bits >> 8 & 255)).append((char) (bits & 255));
        }
        written(way, bytes.toString(), 0, true, common + "+/");
        written(way, bytes.toString(), 1, true, common + "-_");
        written(way, bytes.toString(), 2, true, common + "+/");
    }

    /** Bytes that a row had earlier are no bits of a last letter. */
    private static void afterRemoving(Writing way) {
        Letterloom x = with("M\u00ff\u00ff");
        x.remove(0, 1, 2);
        due(4, () -> way.written(x, 0, 1, 0, true));
        due("TQ==", () -> text(x, 1));
        fill(x, 0, "Ma\u00ff");
        x.remove(0, 2, 1);
        due(3, () -> way.written(x, 0, 1, 1, false));
        due("TWE", () -> text(x, 1));
    }

    private static void refusedWriting(Writing way) {
        Letterloom x = with(times("a", 241), times("a", 235), "abc", times("a", 320));
        refused(STATE, x, () -> way.written(x, 0, 4, 0, true));
        refused(STATE, x, () -> way.written(x, 0, 4, 0, false));
        refused(STATE, x, () -> way.written(x, 0, 0, 1, true));
        refused(STATE, x, () -> way.written(x, 1, 4, 2, true));
        refused(STATE, x, () -> way.written(x, 1, 4, 2, false));
        refused(STATE, x, () -> way.written(x, 3, 3, 2, true));
        refused(ROW, x, () -> way.written(x, 6, 0, 3, true));
        refused(ROW, x, () -> way.written(x, 0, 6, 3, true));
        refused(ROW, x, () -> way.written(x, -1, 0, 0, true));
        refused(ROW, x, () -> way.written(x, 0, -1, 0, true));
        refused(ARGUMENT, x, () -> way.written(x, 3, 0, 3, true));
        refused(ARGUMENT, x, () -> way.written(x, 2, 0, -1, true));
        refused(ARGUMENT, x, () -> way.written(x, 2, 0, Integer.MAX_VALUE, false));
    }

    private static void told(String row, int kind, int want) {
        Letterloom x = with(row, "before");
        promise = 14;
        due(want, () -> x.look(0, kind));
        due(row, () -> text(x, 0));
        if (want < 0) {
            String exception = want == -1 ? ARGUMENT : UNTOLD;
            promise = 13;
            refused(exception, x, () -> x.read(0, 1, kind));
            refused(exception, x, () -> x.read(0, 0, kind));
            promise = 16;
            due(false, () -> x.isWritten(0, kind));
            promise = 17;
            refused(exception, x, () -> x.plain(0, kind));
        } else {
            promise = 13;
            due(want, () -> x.read(0, 1, kind));
            due(want, () -> x.length(1));
        }
        promise = 21;
        due(true, () -> x.isTrue());
    }

    private static void toldByAll(String row, int common, int safe, int lined) {
        told(row, 0, common);
        told(row, 1, safe);
        told(row, 2, lined);
    }

    private static void reading() {
        toldByAll("", 0, 0, 0);
        toldByAll("A", -1, -1, -1);
        toldByAll("AA", 1, 1, 1);
        toldByAll("AAA", 2, 2, 2);
        toldByAll("AAAA", 3, 3, 3);
        toldByAll("AAAAA", -1, -1, -1);
        toldByAll("AAAAA===", -1, -1, -1);
        toldByAll("=", -1, -1, -1);
        toldByAll("==", -1, -1, -1);
        toldByAll("A=", -1, -1, -1);
        toldByAll("AA=", -1, -1, -1);
        toldByAll("AA==", 1, 1, 1);
        toldByAll("AA===", -1, -1, -2);
        toldByAll("AAA=", 2, 2, 2);
        toldByAll("AAA==", -1, -1, -2);
        toldByAll("AAAA=", -1, -1, -1);
        toldByAll("AAAA==", -1, -1, -1);
        toldByAll("+/+/", 3, -1, 3);
        toldByAll("-_-_", -1, 3, 0);
        toldByAll("+-/_", -1, -1, -2);
        toldByAll("+--/_A", -1, -1, 2);
        toldByAll("A A", -1, -1, 1);
        toldByAll("\r\n", -1, -1, 0);
        toldByAll("\0", -1, -1, 0);
        toldByAll("\u00ff", -1, -1, 0);
        toldByAll("AAAA\r\n", -1, -1, 3);
        toldByAll("AA\r\nAA\r\n", -1, -1, 3);
        toldByAll("\n=", -1, -1, -1);
        behindFilling();
        bitsLeft();
    }

    private static void behindFilling() {
        toldByAll("AA==A", -2, -2, -2);
        toldByAll("AA==\n", -2, -2, 1);
        toldByAll("AA==\n\u00e9 ", -2, -2, 1);
        toldByAll("AA=\n=", -2, -2, -2);
        toldByAll("AA=A=", -2, -2, -2);
        toldByAll("AA=A", -1, -1, -1);
        toldByAll("AA=\n", -1, -1, -1);
        toldByAll("AA==\n=", -1, -1, -2);
        toldByAll("AAA=A", -2, -2, -2);
        toldByAll("AAA=\n", -2, -2, 2);
        toldByAll("AAA=-", -2, -2, 2);
        toldByAll("AAA=+", -2, -2, -2);
        toldByAll("AAA=\n=", -1, -1, -2);
        toldByAll("AA\n==", -1, -1, 1);
        toldByAll("AAA\n=", -1, -1, 2);
        toldByAll("AAA=AAA=", -1, -1, -2);
        toldByAll("AAAA=AAA", -1, -1, -1);
    }

    private static void bitsLeft() {
        toldByAll("AB", -2, -2, -2);
        toldByAll("AC", -2, -2, -2);
        toldByAll("AE", -2, -2, -2);
        toldByAll("AI", -2, -2, -2);
        toldByAll("AQ", 1, 1, 1);
        toldByAll("Ag==", 1, 1, 1);
        toldByAll("AB==", -2, -2, -2);
        toldByAll("AB=", -1, -1, -1);
        toldByAll("AAB", -2, -2, -2);
        toldByAll("AAC=", -2, -2, -2);
        toldByAll("AAE=", 2, 2, 2);
        toldByAll("AB\n", -1, -1, -2);
        toldByAll("AAB\n=\n", -1, -1, -2);
        toldByAll("AAAB", 3, 3, 3);
        toldByAll("BAAA", 3, 3, 3);
        toldByAll("A/", -2, -1, -2);
        toldByAll("A_", -1, -2, -1);
    }

    private static void read() {
        reading();
        promise = 13;
        Letterloom x = with("TWFu", "TWFu\r\n!YQ==", "-_-_", times("/", 320));
        due(3, () -> x.read(0, 4, 0));
        due("Man", () -> text(x, 4));
        due("TWFu", () -> text(x, 0));
        due(4, () -> x.read(1, 1, 2));
        due("Mana", () -> text(x, 1));
        due(3, () -> x.read(2, 2, 1));
        due("\u00fb\u00ff\u00bf", () -> text(x, 2));
        due(240, () -> x.read(3, 3, 0));
        due(times("\u00ff", 240), () -> text(x, 3));
        due(3, () -> x.read(0, 0, 2));
        due("Man", () -> text(x, 0));
        fill(x, 0, "AB");
        refused(ROW, x, () -> x.read(6, 0, 3));
        refused(ROW, x, () -> x.read(0, 6, 3));
        refused(ROW, x, () -> x.read(-1, 0, 0));
        refused(ROW, x, () -> x.read(0, -1, 0));
        refused(ARGUMENT, x, () -> x.read(0, 0, 3));
        refused(ARGUMENT, x, () -> x.read(0, 0, -1));
        refused(UNTOLD, x, () -> x.read(0, 0, 0));
        promise = 14;
        refused(ROW, x, () -> x.look(6, 3));
        refused(ROW, x, () -> x.look(-1, 0));
        refused(ARGUMENT, x, () -> x.look(0, 3));
        refused(ARGUMENT, x, () -> x.look(0, -1));
    }

    private static void letters() {
        promise = 15;
        Letterloom x = with("Aa0+/-_=z\n9Z", "", "@[`{:.,\u00c1");
        due(8, () -> x.letters(0, 0));
        due(8, () -> x.letters(0, 1));
        due(8, () -> x.letters(0, 2));
        due(0, () -> x.letters(1, 0));
        due(0, () -> x.letters(2, 0));
        due(0, () -> x.letters(2, 1));
        fill(x, 3, "++/-");
        due(3, () -> x.letters(3, 0));
        due(1, () -> x.letters(3, 1));
        due(3, () -> x.letters(3, 2));
        fill(x, 4, "AA==AA");
        due(4, () -> x.letters(4, 2));
        refused(ROW, x, () -> x.letters(6, 3));
        refused(ROW, x, () -> x.letters(-1, 0));
        refused(ARGUMENT, x, () -> x.letters(0, 3));
        refused(ARGUMENT, x, () -> x.letters(0, -1));
    }

    private static void isWritten() {
        promise = 16;
        String line = times("YWFh", 19);
        Letterloom x = with("TQ==", "TQ", "", "+/+/", line + "\r\nYQ==", line + "YQ==");
        due(true, () -> x.isWritten(0, 0));
        due(true, () -> x.isWritten(0, 2));
        due(true, () -> x.isWritten(1, 1));
        due(true, () -> x.isWritten(1, 2));
        due(true, () -> x.isWritten(2, 0));
        due(true, () -> x.isWritten(2, 2));
        due(true, () -> x.isWritten(3, 0));
        due(false, () -> x.isWritten(3, 1));
        due(true, () -> x.isWritten(4, 2));
        due(false, () -> x.isWritten(4, 0));
        due(true, () -> x.isWritten(5, 0));
        due(false, () -> x.isWritten(5, 2));
        refused(ROW, x, () -> x.isWritten(6, 3));
        refused(ROW, x, () -> x.isWritten(-1, 0));
        refused(ARGUMENT, x, () -> x.isWritten(0, 3));
        refused(ARGUMENT, x, () -> x.isWritten(0, -1));
        fill(x, 0, "TQ==\r\n");
        due(false, () -> x.isWritten(0, 2));
        fill(x, 0, "\r\n");
        due(false, () -> x.isWritten(0, 2));
        fill(x, 0, "TQ=");
        due(false, () -> x.isWritten(0, 0));
        fill(x, 0, line + "\r\n");
        due(false, () -> x.isWritten(0, 2));
        fill(x, 0, line + "\nYQ==");
        due(false, () -> x.isWritten(0, 2));
        fill(x, 0, times("A", 320));
        due(true, () -> x.isWritten(0, 1));
        due(false, () -> x.isWritten(0, 2));
    }

    private static void plain() {
        promise = 17;
        Letterloom x = with("TQ", "T W\nE", "", times("A", 320), "-_-", times("A", 76) + "AA");
        due(4, () -> x.plain(0, 0));
        due("TQ==", () -> text(x, 0));
        due(4, () -> x.plain(0, 0));
        due("TQ==", () -> text(x, 0));
        due(4, () -> x.plain(1, 2));
        due("TWE=", () -> text(x, 1));
        due(0, () -> x.plain(2, 1));
        refused(STATE, x, () -> x.plain(3, 2));
        due(320, () -> x.plain(3, 0));
        refused(UNTOLD, x, () -> x.plain(4, 1));
        refused(ARGUMENT, x, () -> x.plain(4, 0));
        due(82, () -> x.plain(5, 2));
        due(times("A", 76) + "\r\nAA==", () -> text(x, 5));
        refused(ARGUMENT, x, () -> x.plain(5, 0));
        refused(ARGUMENT, x, () -> x.plain(0, 3));
        refused(ARGUMENT, x, () -> x.plain(0, -1));
        refused(ROW, x, () -> x.plain(6, 3));
        refused(ROW, x, () -> x.plain(-1, 0));
        fill(x, 0, times("A", 319));
        due(320, () -> x.plain(0, 1));
        due(times("A", 319) + "=", () -> text(x, 0));
        fill(x, 0, times("A", 312));
        due(320, () -> x.plain(0, 2));
        fill(x, 0, times("A", 314));
        refused(STATE, x, () -> x.plain(0, 2));
    }

    private static void figures() {
        promise = 18;
        Letterloom x = with("+ab", "-", "====", "", times("a", 320), times("\u00ff", 58));
        due(1f, () -> x.letterShare(0, 0));
        due(2f / 3f, () -> x.letterShare(0, 1));
        due(0f, () -> x.letterShare(1, 2));
        due(0f, () -> x.letterShare(2, 0));
        due(1f, () -> x.letterShare(4, 2));
        refused(EMPTY, x, () -> x.letterShare(3, 0));
        refused(ARGUMENT, x, () -> x.letterShare(3, 3));
        refused(ARGUMENT, x, () -> x.letterShare(0, -1));
        refused(ROW, x, () -> x.letterShare(6, 3));
        refused(ROW, x, () -> x.letterShare(-1, 0));
        promise = 19;
        due(4d / 3d, () -> x.growth(0, 0));
        due(4d, () -> x.growth(1, 1));
        due(2d, () -> x.growth(2, 2));
        due(428d / 320d, () -> x.growth(4, 0));
        due(438d / 320d, () -> x.growth(4, 2));
        due(80d / 58d, () -> x.growth(5, 1));
        due(82d / 58d, () -> x.growth(5, 2));
        refused(EMPTY, x, () -> x.growth(3, 0));
        refused(ARGUMENT, x, () -> x.growth(3, 3));
        refused(ARGUMENT, x, () -> x.growth(0, -1));
        refused(ROW, x, () -> x.growth(6, 3));
        refused(ROW, x, () -> x.growth(-1, 0));
    }

    private static void checksum() {
        promise = 20;
        Letterloom x = new Letterloom();
        due(7L * 31 * 31 * 31 * 31 * 31 * 31, () -> x.checksum());
        x.add(1, 200);
        due(((((((7L * 31) * 31 + 1) * 31 + 200) * 31) * 31) * 31) * 31, () -> x.checksum());
        x.add(5, 3);
        due((((((((7L * 31) * 31 + 1) * 31 + 200) * 31) * 31) * 31) * 31 + 1) * 31 + 3, () -> x.checksum());
        x.remove(1, 0, 1);
        x.remove(5, 0, 1);
        due(7L * 31 * 31 * 31 * 31 * 31 * 31, () -> x.checksum());
    }

    private static void isTrue() {
        promise = 21;
        Letterloom x = new Letterloom();
        due(true, () -> x.isTrue());
        Letterloom y = with(times("\u00ff", 320), times("a", 319), "AA=", "AB", "TWFu\r\nTQ==", times("=", 320));
        long before = y.checksum();
        due(true, () -> y.isTrue());
        due(before, () -> y.checksum());
    }

    public static void main(String[] args) {
        newObject();
        add();
        addMore();
        put();
        insert();
        remove();
        lengthAndGet();
        copyAndIsLike();
        promise = 11;
        writing(Letterloom::write);
        promise = 12;
        writing(Letterloom::writeText);
        read();
        letters();
        isWritten();
        plain();
        figures();
        checksum();
        isTrue();
        System.out.println(wrong == 0 ? "all promises hold" : wrong + " answers are not as due");
        if (wrong != 0) {
            System.exit(1);
        }
    }
}
