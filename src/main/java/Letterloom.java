/** Six rows of bytes that are written as letters, by three kinds of Base64, and read back. */
public final class Letterloom {

    private static final int ROWS = 6;
    private static final int MOST_BYTES = 320;
    // A full row written in lines, with filling, has 438 bytes: growth and isTrue go beyond a row's limit.
    private static final int ROOM = 440;
    private static final int HIGHEST_BYTE = 255;
    private static final int MOST_GIVEN = 8;

    private static final int FILLING = '=';
    private static final int LINE_SIGNS = 76;
    private static final int LINE_END_BYTES = 2;
    private static final int CARRIAGE_RETURN = 13;
    private static final int LINE_FEED = 10;

    private static final int WRONG = -1;
    private static final int UNTOLD = -2;

    private static final Kind[] KINDS = Kind.values();

    private final Row[] rows;
    // These are made once and used by every call, since all that a run makes is counted.
    private final Row draft;
    private final Row bare;
    private final StringBuilder text;
    private final Reader reader;

    public Letterloom() {
        rows = new Row[ROWS];
        for (int i = 0; i < rows.length; i++) {
            rows[i] = new Row();
        }
        draft = new Row();
        bare = new Row();
        text = new StringBuilder();
        reader = new Reader();
    }

    // ---- rows ----

    public int add(int row, int number)
            throws IndexOutOfBoundsException, IllegalArgumentException, IllegalStateException {
        Row changed = rowAt(row);
        checkByte(number);
        checkRoom(changed.size + 1);
        changed.append(number);
        return changed.size;
    }

    public int addMore(int row, int many, int a, int b, int c, int d, int e, int f, int g, int h)
            throws IndexOutOfBoundsException, IllegalArgumentException, IllegalStateException {
        Row changed = rowAt(row);
        if (many < 1 || many > MOST_GIVEN) {
            throw new IllegalArgumentException("not 1 to 8 bytes are added");
        }
        draft.clear();
        draft.append(a);
        draft.append(b);
        draft.append(c);
        draft.append(d);
        draft.append(e);
        draft.append(f);
        draft.append(g);
        draft.append(h);
        draft.cutTo(many);
        for (int i = 0; i < draft.size; i++) {
            checkByte(draft.at(i));
        }
        checkRoom(changed.size + many);
        for (int i = 0; i < draft.size; i++) {
            changed.append(draft.at(i));
        }
        return changed.size;
    }

    public int put(int row, int place, int number) throws IndexOutOfBoundsException, IllegalArgumentException {
        Row changed = rowAt(row);
        checkPlace(place, changed.size);
        checkByte(number);
        int before = changed.at(place);
        changed.replace(place, number);
        return before;
    }

    public int insert(int row, int place, int number)
            throws IndexOutOfBoundsException, IllegalArgumentException, IllegalStateException {
        Row changed = rowAt(row);
        checkPlace(place, changed.size + 1);
        checkByte(number);
        checkRoom(changed.size + 1);
        changed.squeezeIn(place, number);
        return changed.size;
    }

    public int remove(int row, int place, int many) throws IndexOutOfBoundsException {
        Row changed = rowAt(row);
        if (place < 0 || many < 0 || many > changed.size - place) {
            throw new IndexOutOfBoundsException("there are not so many bytes there");
        }
        changed.takeOut(place, many);
        return changed.size;
    }

    public int length(int row) throws IndexOutOfBoundsException {
        return rowAt(row).size;
    }

    public int get(int row, int place) throws IndexOutOfBoundsException {
        Row seen = rowAt(row);
        checkPlace(place, seen.size);
        return seen.at(place);
    }

    public int copy(int row, int to) throws IndexOutOfBoundsException {
        Row from = rowAt(row);
        Row changed = rowAt(to);
        changed.become(from);
        return changed.size;
    }

    public boolean isLike(int row, int other) throws IndexOutOfBoundsException {
        Row seen = rowAt(row);
        return seen.sameAs(rowAt(other));
    }

    // ---- writing and reading ----

    public int write(int row, int to, int kind, boolean isFilled)
            throws IndexOutOfBoundsException, IllegalArgumentException, IllegalStateException {
        Row from = rowAt(row);
        Row changed = rowAt(to);
        Kind by = kindAt(kind);
        checkRoom(Writer.lengthOf(from.size, by, isFilled));
        Writer.writeBytes(from, by, isFilled, draft);
        changed.become(draft);
        return changed.size;
    }

    public int writeText(int row, int to, int kind, boolean isFilled)
            throws IndexOutOfBoundsException, IllegalArgumentException, IllegalStateException {
        Row from = rowAt(row);
        Row changed = rowAt(to);
        Kind by = kindAt(kind);
        checkRoom(Writer.lengthOf(from.size, by, isFilled));
        Writer.writeSigns(from, by, isFilled, text);
        changed.becomeCodes(text);
        return changed.size;
    }

    public int read(int row, int to, int kind)
            throws IndexOutOfBoundsException, IllegalArgumentException, UnsupportedOperationException {
        Row from = rowAt(row);
        Row changed = rowAt(to);
        readOrRefuse(from, kindAt(kind));
        changed.become(reader.found);
        return changed.size;
    }

    public int look(int row, int kind) throws IndexOutOfBoundsException, IllegalArgumentException {
        Row seen = rowAt(row);
        return Teller.tell(seen, kindAt(kind));
    }

    public int letters(int row, int kind) throws IndexOutOfBoundsException, IllegalArgumentException {
        Row seen = rowAt(row);
        return seen.countLetters(kindAt(kind), seen.size);
    }

    public boolean isWritten(int row, int kind) throws IndexOutOfBoundsException, IllegalArgumentException {
        Row seen = rowAt(row);
        Kind by = kindAt(kind);
        if (Teller.tell(seen, by) < 0 || !reader.accepts(seen, by)) {
            return false;
        }
        Writer.writeBytes(reader.found, by, true, draft);
        Writer.writeBytes(reader.found, by, false, bare);
        return seen.sameAs(draft) || seen.sameAs(bare);
    }

    public int plain(int row, int kind) throws IndexOutOfBoundsException, IllegalArgumentException,
            UnsupportedOperationException, IllegalStateException {
        Row changed = rowAt(row);
        Kind by = kindAt(kind);
        readOrRefuse(changed, by);
        checkRoom(Writer.lengthOf(reader.found.size, by, true));
        Writer.writeBytes(reader.found, by, true, changed);
        return changed.size;
    }

    // ---- figures ----

    public float letterShare(int row, int kind)
            throws IndexOutOfBoundsException, IllegalArgumentException, ArithmeticException {
        Row seen = rowAt(row);
        Kind by = kindAt(kind);
        checkNotEmpty(seen);
        return (float) seen.countLetters(by, seen.size) / (float) seen.size;
    }

    public double growth(int row, int kind)
            throws IndexOutOfBoundsException, IllegalArgumentException, ArithmeticException {
        Row seen = rowAt(row);
        Kind by = kindAt(kind);
        checkNotEmpty(seen);
        return (double) Writer.lengthOf(seen.size, by, true) / (double) seen.size;
    }

    public long checksum() {
        long sum = 7;
        for (int i = 0; i < rows.length; i++) {
            sum = rows[i].addTo(sum);
        }
        return sum;
    }

    public boolean isTrue() {
        for (int i = 0; i < rows.length; i++) {
            if (!areKindsAlike(rows[i], true) || !areKindsAlike(rows[i], false)) {
                return false;
            }
            for (int k = 0; k < KINDS.length; k++) {
                if (!isTrueOf(rows[i], KINDS[k])) {
                    return false;
                }
            }
        }
        return true;
    }

    // ---- the theorem ----

    private boolean isTrueOf(Row row, Kind kind) {
        Writer.writeBytes(row, kind, true, draft);
        Writer.writeBytes(row, kind, false, bare);
        return draft.isBeginningAndFilling(bare)
                && isTextLike(row, kind, true, draft)
                && isTextLike(row, kind, false, bare)
                && isReadAs(draft, kind, row)
                && isReadAs(bare, kind, row)
                && isReadAsTold(row, kind);
    }

    private boolean isTextLike(Row row, Kind kind, boolean isFilled, Row written) {
        Writer.writeSigns(row, kind, isFilled, text);
        return written.hasCodes(text);
    }

    private boolean isReadAs(Row written, Kind kind, Row row) {
        return reader.accepts(written, kind) && reader.found.sameAs(row);
    }

    private boolean isReadAsTold(Row row, Kind kind) {
        int told = Teller.tell(row, kind);
        if (told == UNTOLD) {
            return true;
        }
        if (told == WRONG) {
            return !reader.accepts(row, kind);
        }
        return reader.accepts(row, kind) && reader.found.size == told;
    }

    private boolean areKindsAlike(Row row, boolean isFilled) {
        Writer.writeBytes(row, Kind.COMMON, isFilled, draft);
        Writer.writeBytes(row, Kind.SAFE, isFilled, bare);
        if (!draft.isInOtherLetters(bare)) {
            return false;
        }
        Writer.writeBytes(row, Kind.LINED, isFilled, bare);
        return draft.isWithoutLineEnds(bare);
    }

    // ---- what a call may ask for ----

    private Row rowAt(int row) {
        if (row < 0 || row >= rows.length) {
            throw new IndexOutOfBoundsException("no such row");
        }
        return rows[row];
    }

    private static Kind kindAt(int kind) {
        if (kind < 0 || kind >= KINDS.length) {
            throw new IllegalArgumentException("no such kind");
        }
        return KINDS[kind];
    }

    private static void checkPlace(int place, int places) {
        if (place < 0 || place >= places) {
            throw new IndexOutOfBoundsException("no such place");
        }
    }

    private static void checkByte(int number) {
        if (number < 0 || number > HIGHEST_BYTE) {
            throw new IllegalArgumentException("not a byte of 0 to 255");
        }
    }

    private static void checkRoom(int bytes) {
        if (bytes > MOST_BYTES) {
            throw new IllegalStateException("the row would have more than 320 bytes");
        }
    }

    private static void checkNotEmpty(Row row) {
        if (row.size == 0) {
            throw new ArithmeticException("the row is empty");
        }
    }

    /** Leaves the bytes in the reader. */
    private void readOrRefuse(Row from, Kind kind) {
        if (Teller.tell(from, kind) == UNTOLD) {
            throw new UnsupportedOperationException("nothing is told of the row");
        }
        if (!reader.accepts(from, kind)) {
            throw new IllegalArgumentException("the row is refused");
        }
    }

    /** The three kinds, in the order of their numbers. */
    private enum Kind {
        COMMON('+', '/', false),
        SAFE('-', '_', false),
        LINED('+', '/', true);

        private final int secondLast;
        private final int last;
        /** Whether it writes lines, and so passes over what is no letter. */
        private final boolean hasLines;

        Kind(int secondLast, int last, boolean hasLines) {
            this.secondLast = secondLast;
            this.last = last;
            this.hasLines = hasLines;
        }

        int letterOf(int worth) {
            if (worth < 26) {
                return 'A' + worth;
            }
            if (worth < 52) {
                return 'a' + worth - 26;
            }
            if (worth < 62) {
                return '0' + worth - 52;
            }
            return worth == 62 ? secondLast : last;
        }

        /** -1 if it is no letter. */
        int worthOf(int sign) {
            if (sign >= 'A' && sign <= 'Z') {
                return sign - 'A';
            }
            if (sign >= 'a' && sign <= 'z') {
                return sign - 'a' + 26;
            }
            if (sign >= '0' && sign <= '9') {
                return sign - '0' + 52;
            }
            if (sign == secondLast) {
                return 62;
            }
            return sign == last ? 63 : -1;
        }

        boolean isLetter(int sign) {
            return worthOf(sign) >= 0;
        }
    }

    /** Bytes one behind the other, as many as there is room for. */
    private static final class Row {
        private final int[] bytes = new int[ROOM];
        private int size = 0;

        void clear() {
            size = 0;
        }

        /** 0 if there is no such place: the writer wants missing bits to be 0. */
        int at(int place) {
            return place >= 0 && place < size && place < bytes.length ? bytes[place] : 0;
        }

        void append(int number) {
            if (size >= 0 && size < bytes.length) {
                bytes[size] = number;
                size++;
            }
        }

        void replace(int place, int number) {
            if (place >= 0 && place < size && place < bytes.length) {
                bytes[place] = number;
            }
        }

        void squeezeIn(int place, int number) {
            append(number);
            for (int i = size - 1; i > place; i--) {
                replace(i, at(i - 1));
            }
            replace(place, number);
        }

        void takeOut(int place, int many) {
            for (int i = place; i < size - many; i++) {
                replace(i, at(i + many));
            }
            cutTo(size - many);
        }

        void cutTo(int most) {
            if (most >= 0 && most < size) {
                size = most;
            }
        }

        void become(Row from) {
            if (from == this) {
                return;
            }
            clear();
            for (int i = 0; i < from.size; i++) {
                append(from.at(i));
            }
        }

        void becomeCodes(StringBuilder text) {
            clear();
            for (int i = 0; i < text.length(); i++) {
                append(text.charAt(i));
            }
        }

        boolean sameAs(Row row) {
            return size == row.size && beginsWith(row);
        }

        boolean beginsWith(Row row) {
            if (size < row.size) {
                return false;
            }
            for (int i = 0; i < row.size; i++) {
                if (at(i) != row.at(i)) {
                    return false;
                }
            }
            return true;
        }

        boolean hasCodes(StringBuilder text) {
            if (size != text.length()) {
                return false;
            }
            for (int i = 0; i < text.length(); i++) {
                if (at(i) != text.charAt(i)) {
                    return false;
                }
            }
            return true;
        }

        boolean isBeginningAndFilling(Row beginning) {
            return beginsWith(beginning) && countFilling(beginning.size) == size - beginning.size;
        }

        /** Whether the other row has the last two letters of SAFE where this one has those of COMMON. */
        boolean isInOtherLetters(Row safe) {
            if (size != safe.size) {
                return false;
            }
            for (int i = 0; i < size; i++) {
                int worth = Kind.COMMON.worthOf(at(i));
                int due = worth < 62 ? at(i) : Kind.SAFE.letterOf(worth);
                if (safe.at(i) != due) {
                    return false;
                }
            }
            return true;
        }

        /** Whether this row is the other one but for the ends of its lines. */
        boolean isWithoutLineEnds(Row lined) {
            int place = 0;
            for (int i = 0; i < lined.size; i++) {
                int sign = lined.at(i);
                if (sign == CARRIAGE_RETURN || sign == LINE_FEED) {
                    continue;
                }
                if (place >= size || at(place) != sign) {
                    return false;
                }
                place++;
            }
            return place == size;
        }

        /** The place of the first '=', or the size if there is none. */
        int firstFilling() {
            for (int i = 0; i < size; i++) {
                if (at(i) == FILLING) {
                    return i;
                }
            }
            return size;
        }

        int countFilling(int from) {
            int count = 0;
            for (int i = from; i < size; i++) {
                if (at(i) == FILLING) {
                    count++;
                }
            }
            return count;
        }

        int countLetters(Kind kind, int end) {
            int count = 0;
            for (int i = 0; i < end; i++) {
                if (kind.isLetter(at(i))) {
                    count++;
                }
            }
            return count;
        }

        long addTo(long sum) {
            long result = 31 * sum + size;
            for (int i = 0; i < size; i++) {
                result = 31 * result + at(i);
            }
            return result;
        }
    }

    /** What a kind writes of a row, found out for each place by itself. */
    private static final class Writer {

        static int lengthOf(int bytes, Kind kind, boolean isFilled) {
            int signs = countSigns(bytes, isFilled);
            if (!kind.hasLines || signs == 0) {
                return signs;
            }
            return signs + (signs - 1) / LINE_SIGNS * LINE_END_BYTES;
        }

        static int countSigns(int bytes, boolean isFilled) {
            int rest = bytes % 3;
            int signs = bytes / 3 * 4;
            if (rest == 0) {
                return signs;
            }
            return isFilled ? signs + 4 : signs + rest + 1;
        }

        static void writeBytes(Row from, Kind kind, boolean isFilled, Row to) {
            int end = lengthOf(from.size, kind, isFilled);
            to.clear();
            for (int i = 0; i < end; i++) {
                to.append(writtenAt(from, kind, i));
            }
        }

        static void writeSigns(Row from, Kind kind, boolean isFilled, StringBuilder to) {
            int end = lengthOf(from.size, kind, isFilled);
            to.setLength(0);
            for (int i = 0; i < end; i++) {
                to.append((char) writtenAt(from, kind, i));
            }
        }

        static int writtenAt(Row from, Kind kind, int place) {
            if (!kind.hasLines) {
                return signAt(from, kind, place);
            }
            int line = place / (LINE_SIGNS + LINE_END_BYTES);
            int column = place % (LINE_SIGNS + LINE_END_BYTES);
            if (column < LINE_SIGNS) {
                return signAt(from, kind, line * LINE_SIGNS + column);
            }
            return column == LINE_SIGNS ? CARRIAGE_RETURN : LINE_FEED;
        }

        static int signAt(Row from, Kind kind, int index) {
            int bit = index * 6;
            int first = bit / 8;
            if (first >= from.size) {
                return FILLING;
            }
            int pair = from.at(first) << 8 | from.at(first + 1);
            return kind.letterOf(pair >> (10 - bit % 8) & 63);
        }
    }

    /** Tells by the document's part Reading what would come of reading a row. */
    private static final class Teller {

        static int tell(Row row, Kind kind) {
            int first = row.firstFilling();
            int letters = row.countLetters(kind, first);
            int filling = row.countFilling(first);
            if (!kind.hasLines && letters != first) {
                return WRONG;
            }
            if (isWrong(letters, filling, kind)) {
                return WRONG;
            }
            if (isUntoldBehind(row, kind, first) || kind.hasLines && filling > dueFilling(letters)
                    || hasBitsLeft(row, kind, first, letters)) {
                return UNTOLD;
            }
            return letters * 6 / 8;
        }

        static int dueFilling(int letters) {
            int rest = letters % 4;
            return rest == 2 ? 2 : rest == 3 ? 1 : 0;
        }

        static boolean isWrong(int letters, int filling, Kind kind) {
            int due = dueFilling(letters);
            return letters % 4 == 1
                    || filling != 0 && letters % 4 == 0
                    || filling == 1 && due == 2
                    || !kind.hasLines && filling > due;
        }

        static boolean isUntoldBehind(Row row, Kind kind, int first) {
            boolean hasGap = false;
            for (int i = first + 1; i < row.size; i++) {
                if (row.at(i) == FILLING) {
                    if (hasGap) {
                        return true;
                    }
                } else if (!kind.hasLines || kind.isLetter(row.at(i))) {
                    return true;
                } else {
                    hasGap = true;
                }
            }
            return false;
        }

        static boolean hasBitsLeft(Row row, Kind kind, int first, int letters) {
            int due = dueFilling(letters);
            int mask = due == 2 ? 15 : due == 1 ? 3 : 0;
            return (lastWorth(row, kind, first) & mask) != 0;
        }

        /** 0 if there is no letter. */
        static int lastWorth(Row row, Kind kind, int first) {
            for (int i = first - 1; i >= 0; i--) {
                int worth = kind.worthOf(row.at(i));
                if (worth >= 0) {
                    return worth;
                }
            }
            return 0;
        }
    }

    /** Reads letter by letter, and finds out by itself, without the teller, what it refuses. */
    private static final class Reader {
        private final Row found = new Row();
        private int bits = 0;
        private int held = 0;

        /** Leaves the bytes in found, unless the row is refused. */
        boolean accepts(Row row, Kind kind) {
            found.clear();
            bits = 0;
            held = 0;
            int place = 0;
            while (place < row.size && row.at(place) != FILLING) {
                int worth = kind.worthOf(row.at(place));
                if (worth >= 0) {
                    take(worth);
                } else if (!kind.hasLines) {
                    return false;
                }
                place++;
            }
            if (held == 1 || !isEndedWell(row, kind, place)) {
                return false;
            }
            release();
            return true;
        }

        void take(int worth) {
            bits = bits << 6 | worth;
            held++;
            if (held == 4) {
                release();
            }
        }

        /** Gives out the whole bytes that are held; bits left over are dropped. */
        void release() {
            int have = held * 6;
            while (have >= 8) {
                have -= 8;
                found.append(bits >> have & HIGHEST_BYTE);
            }
            bits = 0;
            held = 0;
        }

        boolean isEndedWell(Row row, Kind kind, int first) {
            if (first >= row.size) {
                return true;
            }
            if (held == 0) {
                return false;
            }
            int end = first + 4 - held;
            for (int i = first; i < end; i++) {
                if (row.at(i) != FILLING) {
                    return false;
                }
            }
            for (int i = end; i < row.size; i++) {
                if (!kind.hasLines || kind.isLetter(row.at(i))) {
                    return false;
                }
            }
            return true;
        }
    }
}
