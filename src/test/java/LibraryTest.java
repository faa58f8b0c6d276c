import java.nio.charset.StandardCharsets;
import java.util.Random;

/** Very many rows, with java.util.Base64 itself as the judge of what is read, refused and written. */
public final class LibraryTest extends Checks {
    private static final String FEW_SIGNS = "ABQ-=\n";
    private static final int SHORT = 6;
    private static final String SIGNS = "AAAABQgwEI+/-_==== \r\n!9z";
    private static final int ROUNDS = 20_000;
    private static final long SEED = 20261118;

    private static boolean isRefusedByLibrary(String row, int kind) {
        try {
            Model.found(row, kind);
            return false;
        } catch (IllegalArgumentException e) {
            return true;
        }
    }

    private static String shown(String row, int kind) {
        return row.replace("\r", "\\r").replace("\n", "\\n") + " by kind " + kind + ": ";
    }

    private static void reads(String row, int kind) {
        Letterloom x = with(row);
        int told = x.look(0, kind);
        String shown = shown(row, kind);
        if (told == -2) {
            due(shown + -2, () -> shown + Model.told(row, kind));
            due(shown + UNTOLD, () -> shown + answer(() -> x.read(0, 1, kind)));
        } else if (told == -1) {
            due(shown + true, () -> shown + isRefusedByLibrary(row, kind));
            due(shown + ARGUMENT, () -> shown + answer(() -> x.read(0, 1, kind)));
        } else {
            String found = Model.found(row, kind);
            due(shown + found.length(), () -> shown + told);
            due(shown + found.length(), () -> shown + answer(() -> x.read(0, 1, kind)));
            due(shown + found, () -> shown + text(x, 1));
        }
        due(shown + (told < 0 ? told : 0), () -> shown + Model.told(row, kind));
    }

    private static void readsWithFirst(String first) {
        for (int kind = 0; kind < 3; kind++) {
            reads(first, kind);
        }
        for (int i = 0; first.length() < SHORT && i < FEW_SIGNS.length(); i++) {
            readsWithFirst(first + FEW_SIGNS.charAt(i));
        }
    }

    static void everyShortRow() {
        sentence("Reading: every row of up to six of a few signs");
        readsWithFirst("");
    }

    static void madeUpRows() {
        sentence("Reading: made-up rows");
        Random random = new Random(SEED);
        for (int round = 0; round < ROUNDS; round++) {
            int length = random.nextInt(round % 100 == 0 ? 321 : 13);
            StringBuilder row = new StringBuilder();
            for (int i = 0; i < length; i++) {
                row.append(SIGNS.charAt(random.nextInt(SIGNS.length())));
            }
            for (int kind = 0; kind < 3; kind++) {
                reads(row.toString(), kind);
            }
        }
    }

    /** So that long rows are not nearly all wrong. */
    static void spoiledRows() {
        sentence("Reading: rows that were written, with a sign or two near the end changed");
        Random random = new Random(SEED);
        for (int round = 0; round < 3000; round++) {
            int kind = round % 3;
            StringBuilder row = new StringBuilder(Model.written(madeUp(random, random.nextInt(230)), kind, true));
            for (int i = random.nextInt(3); i > 0 && row.length() > 0; i--) {
                int place = row.length() - 1 - random.nextInt(Math.min(row.length(), 6));
                row.setCharAt(place, SIGNS.charAt(random.nextInt(SIGNS.length())));
            }
            reads(row.toString(), kind);
        }
    }

    private static String madeUp(Random random, int length) {
        byte[] bytes = new byte[length];
        random.nextBytes(bytes);
        return new String(bytes, StandardCharsets.ISO_8859_1);
    }

    private static void writes(String row, int kind, boolean isFilled) {
        String want = Model.written(row, kind, isFilled);
        boolean isTooLong = want.length() > 320;
        Letterloom x = with(row);
        due(isTooLong ? STATE : want.length(), () -> x.write(0, 1, kind, isFilled));
        due(isTooLong ? "" : want, () -> text(x, 1));
        Letterloom y = with(row);
        due(isTooLong ? STATE : want.length(), () -> y.writeText(0, 0, kind, isFilled));
        due(isTooLong ? row : want, () -> text(y, 0));
        if (!row.isEmpty() && isFilled) {
            due((double) want.length() / row.length(), () -> with(row).growth(0, kind));
        }
    }

    static void everyLength() {
        sentence("Letters: rows of every length");
        Random random = new Random(SEED);
        for (int length = 0; length <= 320; length++) {
            String row = madeUp(random, length);
            for (int kind = 0; kind < 3; kind++) {
                writes(row, kind, true);
                writes(row, kind, false);
            }
        }
    }

    public static void main(String[] args) {
        runAll(LibraryTest.class);
    }
}
