import java.nio.charset.StandardCharsets;
import java.util.Arrays;
import java.util.Base64;

/**
 * The document once more, as plainly as the Java library allows: rows are texts, java.util.Base64 writes them and
 * reads them, and part Reading is told by patterns. A call that refuses throws before it changes anything.
 */
final class Model {
    private static final Base64.Encoder[] ENCODERS =
            {Base64.getEncoder(), Base64.getUrlEncoder(), Base64.getMimeEncoder()};
    private static final Base64.Decoder[] DECODERS =
            {Base64.getDecoder(), Base64.getUrlDecoder(), Base64.getMimeDecoder()};
    private static final int[] DUE = {0, 0, 2, 1};

    private final String[] rows = {"", "", "", "", "", ""};

    private static void want(boolean holds, RuntimeException otherwise) {
        if (!holds) {
            throw otherwise;
        }
    }

    private static void wantRow(int row) {
        want(row >= 0 && row <= 5, new IndexOutOfBoundsException());
    }

    private static void wantKind(int kind) {
        want(kind >= 0 && kind <= 2, new IllegalArgumentException());
    }

    private static void wantByte(int number) {
        want(number >= 0 && number <= 255, new IllegalArgumentException());
    }

    private int become(int row, String text) {
        want(text.length() <= 320, new IllegalStateException());
        rows[row] = text;
        return text.length();
    }

    private static byte[] bytes(String text) {
        return text.getBytes(StandardCharsets.ISO_8859_1);
    }

    static String written(String text, int kind, boolean isFilled) {
        Base64.Encoder encoder = isFilled ? ENCODERS[kind] : ENCODERS[kind].withoutPadding();
        return new String(encoder.encode(bytes(text)), StandardCharsets.ISO_8859_1);
    }

    static String found(String text, int kind) {
        return new String(DECODERS[kind].decode(bytes(text)), StandardCharsets.ISO_8859_1);
    }

    /** 0 if the row is right, -1 if it is told as wrong, -2 if nothing is told of it. */
    static int told(String row, int kind) {
        int first = (row + "=").indexOf('=');
        String ahead = row.substring(0, first);
        String behind = row.substring(Math.min(first + 1, row.length()));
        if (kind != 2 && !lettersOf(ahead, kind).equals(ahead)) {
            return -1;
        }
        String letters = lettersOf(ahead, kind);
        int n = letters.length();
        int m = row.length() - row.replace("=", "").length();
        int due = DUE[n % 4];
        if (n % 4 == 1 || m != 0 && n % 4 == 0 || m == 1 && due == 2 || kind != 2 && m > due) {
            return -1;
        }
        String rightBehind = kind == 2 ? "=*[^A-Za-z0-9+/=]*" : "=*";
        String rightLast = due == 2 ? "[AQgw]" : due == 1 ? "[AEIMQUYcgkosw048]" : ".?";
        String last = letters.substring(Math.max(0, n - 1));
        return behind.matches(rightBehind) && m <= due && last.matches(rightLast) ? 0 : -2;
    }

    static String lettersOf(String text, int kind) {
        return text.replaceAll(kind == 1 ? "[^A-Za-z0-9_-]" : "[^A-Za-z0-9+/]", "");
    }

    private static String readOrRefuse(String row, int kind) {
        int told = told(row, kind);
        want(told != -1, new IllegalArgumentException());
        want(told != -2, new UnsupportedOperationException());
        return found(row, kind);
    }

    int add(int row, int number) {
        wantRow(row);
        wantByte(number);
        return become(row, rows[row] + (char) number);
    }

    int addMore(int row, int many, int a, int b, int c, int d, int e, int f, int g, int h) {
        wantRow(row);
        want(many >= 1 && many <= 8, new IllegalArgumentException());
        StringBuilder more = new StringBuilder();
        for (int number : Arrays.copyOf(new int[] {a, b, c, d, e, f, g, h}, many)) {
            wantByte(number);
            more.append((char) number);
        }
        return become(row, rows[row] + more);
    }

    int put(int row, int place, int number) {
        int before = get(row, place);
        wantByte(number);
        StringBuilder text = new StringBuilder(rows[row]);
        text.setCharAt(place, (char) number);
        become(row, text.toString());
        return before;
    }

    int insert(int row, int place, int number) {
        wantRow(row);
        want(place >= 0 && place <= rows[row].length(), new IndexOutOfBoundsException());
        wantByte(number);
        return become(row, rows[row].substring(0, place) + (char) number + rows[row].substring(place));
    }

    int remove(int row, int place, int many) {
        wantRow(row);
        long end = (long) place + many;
        want(place >= 0 && many >= 0 && end <= rows[row].length(), new IndexOutOfBoundsException());
        return become(row, rows[row].substring(0, place) + rows[row].substring((int) end));
    }

    int length(int row) {
        wantRow(row);
        return rows[row].length();
    }

    int get(int row, int place) {
        wantRow(row);
        want(place >= 0 && place < rows[row].length(), new IndexOutOfBoundsException());
        return rows[row].charAt(place);
    }

    int copy(int row, int to) {
        wantRow(row);
        wantRow(to);
        return become(to, rows[row]);
    }

    boolean isLike(int row, int other) {
        wantRow(row);
        wantRow(other);
        return rows[row].equals(rows[other]);
    }

    int write(int row, int to, int kind, boolean isFilled) {
        wantRow(row);
        wantRow(to);
        wantKind(kind);
        return become(to, written(rows[row], kind, isFilled));
    }

    int writeText(int row, int to, int kind, boolean isFilled) {
        return write(row, to, kind, isFilled);
    }

    int read(int row, int to, int kind) {
        wantRow(row);
        wantRow(to);
        wantKind(kind);
        return become(to, readOrRefuse(rows[row], kind));
    }

    int look(int row, int kind) {
        wantRow(row);
        wantKind(kind);
        int told = told(rows[row], kind);
        return told == 0 ? found(rows[row], kind).length() : told;
    }

    int letters(int row, int kind) {
        wantRow(row);
        wantKind(kind);
        return lettersOf(rows[row], kind).length();
    }

    boolean isWritten(int row, int kind) {
        if (look(row, kind) < 0) {
            return false;
        }
        String found = found(rows[row], kind);
        return rows[row].equals(written(found, kind, true)) || rows[row].equals(written(found, kind, false));
    }

    int plain(int row, int kind) {
        wantRow(row);
        wantKind(kind);
        return become(row, written(readOrRefuse(rows[row], kind), kind, true));
    }

    float letterShare(int row, int kind) {
        int letters = letters(row, kind);
        want(!rows[row].isEmpty(), new ArithmeticException());
        return (float) letters / (float) rows[row].length();
    }

    double growth(int row, int kind) {
        wantRow(row);
        wantKind(kind);
        want(!rows[row].isEmpty(), new ArithmeticException());
        return (double) written(rows[row], kind, true).length() / (double) rows[row].length();
    }

    long checksum() {
        long sum = 7;
        for (String row : rows) {
            sum = 31 * sum + row.length();
            for (int i = 0; i < row.length(); i++) {
                sum = 31 * sum + row.charAt(i);
            }
        }
        return sum;
    }

    boolean isTrue() {
        return true;
    }
}
