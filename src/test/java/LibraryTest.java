import java.util.Arrays;
import java.util.Base64;
import java.util.Random;

/** Many made-up rows, with the library's own Base64 as the judge; the seed is fixed. */
public final class LibraryTest {
    private static final int ROUNDS = 60_000;
    private static final String SIGNS = "AAAABQgwEI+/-_==== \r\n!9z";

    private static final Base64.Encoder[] ENCODERS =
            {Base64.getEncoder(), Base64.getUrlEncoder(), Base64.getMimeEncoder()};
    private static final Base64.Decoder[] DECODERS =
            {Base64.getDecoder(), Base64.getUrlDecoder(), Base64.getMimeDecoder()};

    private static int wrong = 0;

    private static void due(String what, byte[] row, int kind, Object got, Object want) {
        if (!want.equals(got)) {
            wrong++;
            System.out.println(what + " of " + Arrays.toString(row) + " by kind " + kind
                    + " answered " + got + ", due is " + want);
        }
    }

    private static Letterloom with(byte[] bytes) {
        Letterloom x = new Letterloom();
        for (byte b : bytes) {
            x.add(0, b & 255);
        }
        return x;
    }

    private static byte[] bytes(Letterloom x, int row) {
        byte[] bytes = new byte[x.length(row)];
        for (int i = 0; i < bytes.length; i++) {
            bytes[i] = (byte) x.get(row, i);
        }
        return bytes;
    }

    /** -1 if the library refuses the row. */
    private static int libraryReads(byte[] row, int kind) {
        try {
            return DECODERS[kind].decode(row).length;
        } catch (IllegalArgumentException e) {
            return -1;
        }
    }

    private static void writes(byte[] row, int kind, boolean isFilled) {
        Base64.Encoder encoder = isFilled ? ENCODERS[kind] : ENCODERS[kind].withoutPadding();
        byte[] want = encoder.encode(row);
        Letterloom x = with(row);
        for (int way = 0; way < 2; way++) {
            Object got;
            try {
                int length = way == 0 ? x.write(0, 1, kind, isFilled) : x.writeText(0, 1, kind, isFilled);
                due("length", row, kind, x.length(1), length);
                got = Arrays.toString(bytes(x, 1));
            } catch (IllegalStateException e) {
                got = "too long";
            }
            due("write " + isFilled, row, kind, got, want.length > 320 ? "too long" : Arrays.toString(want));
        }
        if (row.length != 0 && isFilled) {
            due("growth", row, kind, x.growth(0, kind), (double) want.length / row.length);
        }
    }

    private static void reads(byte[] row, int kind) {
        Letterloom x = with(row);
        int told = x.look(0, kind);
        if (told >= 0) {
            due("look", row, kind, told, libraryReads(row, kind));
            due("read", row, kind, x.read(0, 1, kind), told);
            byte[] found = DECODERS[kind].decode(row);
            due("bytes", row, kind, Arrays.toString(bytes(x, 1)), Arrays.toString(found));
            boolean isWritten = Arrays.equals(row, ENCODERS[kind].encode(found))
                    || Arrays.equals(row, ENCODERS[kind].withoutPadding().encode(found));
            due("isWritten", row, kind, x.isWritten(0, kind), isWritten);
            plain(row, kind, ENCODERS[kind].encode(found));
            return;
        }
        if (told == -1) {
            due("look", row, kind, told, libraryReads(row, kind));
        }
        due("isWritten", row, kind, x.isWritten(0, kind), false);
        String got;
        try {
            x.read(0, 1, kind);
            got = "read";
        } catch (IllegalArgumentException e) {
            got = "refused";
        } catch (UnsupportedOperationException e) {
            got = "untold";
        }
        due("read", row, kind, got, told == -1 ? "refused" : "untold");
    }

    private static void plain(byte[] row, int kind, byte[] want) {
        Letterloom x = with(row);
        Object got;
        try {
            x.plain(0, kind);
            got = Arrays.toString(bytes(x, 0));
        } catch (IllegalStateException e) {
            got = "too long";
        }
        due("plain", row, kind, got, want.length > 320 ? "too long" : Arrays.toString(want));
    }

    private static byte[] madeUp(Random random, int round) {
        int most = round % 100 == 0 ? 320 : 12;
        byte[] row = new byte[random.nextInt(most + 1)];
        for (int i = 0; i < row.length; i++) {
            row[i] = (byte) SIGNS.charAt(random.nextInt(SIGNS.length()));
        }
        return row;
    }

    /** A written row with a few bytes changed, so that long rows are not all wrong. */
    private static byte[] spoiled(Random random, int kind) {
        byte[] row = new byte[random.nextInt(230)];
        random.nextBytes(row);
        byte[] written = ENCODERS[kind].encode(row);
        for (int i = random.nextInt(3); i > 0 && written.length > 0; i--) {
            int place = written.length - 1 - random.nextInt(Math.min(written.length, 6));
            written[place] = (byte) SIGNS.charAt(random.nextInt(SIGNS.length()));
        }
        return written;
    }

    public static void main(String[] args) {
        Random random = new Random(20261118);
        for (int round = 0; round < ROUNDS; round++) {
            byte[] row = madeUp(random, round);
            for (int kind = 0; kind < 3; kind++) {
                reads(row, kind);
            }
            if (round % 20 == 0) {
                reads(spoiled(random, round % 3), round % 3);
                due("isTrue", row, 0, with(row).isTrue(), true);
            }
        }
        for (int length = 0; length <= 320; length++) {
            byte[] row = new byte[length];
            random.nextBytes(row);
            for (int kind = 0; kind < 3; kind++) {
                writes(row, kind, true);
                writes(row, kind, false);
            }
            due("isTrue", row, 0, with(row).isTrue(), true);
        }
        System.out.println(wrong == 0 ? "all answers are the library's" : wrong + " answers are not as due");
        if (wrong != 0) {
            System.exit(1);
        }
    }
}
