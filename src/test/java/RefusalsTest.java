/** "Exceptions" of the Terms: what changes nothing, and which one is thrown if several apply. */
public final class RefusalsTest extends Checks {
    private static final String FULL = times("a", 320);

    // Row 0 is told as wrong, of row 1 nothing is told, row 2 is full, row 3 is right, row 4 is written too
    // long by the kind 2 alone.
    private static Letterloom loom() {
        return with("A", "TR", FULL, "TQ==", times("A", 316), "");
    }

    static void addRowAheadOfNumber() {
        sentence("2 add: no such row, then number out of range");
        Letterloom x = loom();
        refused(PLACE, x, () -> x.add(6, 256));
        refused(PLACE, x, () -> x.add(-1, -1));
    }

    static void addNumberAheadOfRoom() {
        sentence("2 add: number out of range, then more than 320 bytes");
        Letterloom x = loom();
        refused(ARGUMENT, x, () -> x.add(2, 256));
        refused(ARGUMENT, x, () -> x.add(2, -1));
    }

    static void addMoreRowAheadOfNumber() {
        sentence("3 addMore: no such row, then number out of range");
        Letterloom x = loom();
        refused(PLACE, x, () -> x.addMore(6, 0, 1, 1, 1, 1, 1, 1, 1, 1));
        refused(PLACE, x, () -> x.addMore(-1, 9, 1, 1, 1, 1, 1, 1, 1, 1));
        refused(PLACE, x, () -> x.addMore(6, 1, -1, 1, 1, 1, 1, 1, 1, 1));
        refused(PLACE, x, () -> x.addMore(-1, 8, 1, 1, 1, 1, 1, 1, 1, 256));
    }

    static void addMoreNumberAheadOfRoom() {
        sentence("3 addMore: number out of range, then more than 320 bytes");
        Letterloom x = loom();
        refused(ARGUMENT, x, () -> x.addMore(2, 0, 1, 1, 1, 1, 1, 1, 1, 1));
        refused(ARGUMENT, x, () -> x.addMore(2, 9, 1, 1, 1, 1, 1, 1, 1, 1));
        refused(ARGUMENT, x, () -> x.addMore(2, 1, -1, 1, 1, 1, 1, 1, 1, 1));
        refused(ARGUMENT, x, () -> x.addMore(4, 8, 1, 1, 1, 1, 1, 1, 1, 256));
    }

    static void addMoreAddsAllOrNone() {
        sentence("Exceptions: A method that throws an exception changes nothing. (addMore)");
        Letterloom x = loom();
        refused(ARGUMENT, x, () -> x.addMore(3, 8, 1, 2, 3, 4, 5, 6, 7, 256));
        refused(STATE, x, () -> x.addMore(4, 8, 1, 2, 3, 4, 5, 6, 7, 8));
        due(320, () -> x.addMore(4, 4, 1, 2, 3, 4, 256, 256, 256, 256));
    }

    static void putPlaceAheadOfNumber() {
        sentence("4 put: no such row or place, then number out of range");
        Letterloom x = loom();
        refused(PLACE, x, () -> x.put(6, 0, 256));
        refused(PLACE, x, () -> x.put(-1, 0, -1));
        refused(PLACE, x, () -> x.put(0, 1, 256));
        refused(PLACE, x, () -> x.put(0, -1, -1));
        refused(PLACE, x, () -> x.put(5, 0, 256));
    }

    static void insertPlaceAheadOfNumber() {
        sentence("5 insert: no such row, or place, then number out of range");
        Letterloom x = loom();
        refused(PLACE, x, () -> x.insert(6, 0, 256));
        refused(PLACE, x, () -> x.insert(-1, 0, -1));
        refused(PLACE, x, () -> x.insert(0, 2, 256));
        refused(PLACE, x, () -> x.insert(0, -1, -1));
    }

    static void insertPlaceAndNumberAheadOfRoom() {
        sentence("5 insert: place, then number out of range, then more than 320 bytes");
        Letterloom x = loom();
        refused(PLACE, x, () -> x.insert(2, 321, 0));
        refused(PLACE, x, () -> x.insert(2, -1, 0));
        refused(PLACE, x, () -> x.insert(2, 321, 256));
        refused(ARGUMENT, x, () -> x.insert(2, 320, 256));
        refused(ARGUMENT, x, () -> x.insert(2, 0, -1));
        refused(STATE, x, () -> x.insert(2, 320, 255));
    }

    static void writeRowAheadOfKind() {
        sentence("11, 12: no such row, for either, then no such kind");
        Letterloom x = loom();
        refused(PLACE, x, () -> x.write(6, 0, 3, true));
        refused(PLACE, x, () -> x.write(0, -1, -1, true));
        refused(PLACE, x, () -> x.writeText(-1, 0, 3, false));
        refused(PLACE, x, () -> x.writeText(0, 6, -1, false));
    }

    static void writeRowAndKindAheadOfRoom() {
        sentence("11, 12: no such row, then no such kind, then more than 320 bytes");
        Letterloom x = loom();
        refused(PLACE, x, () -> x.write(2, 6, 0, true));
        refused(PLACE, x, () -> x.writeText(2, -1, 0, false));
        refused(PLACE, x, () -> x.write(2, 6, 3, true));
        refused(ARGUMENT, x, () -> x.write(2, 5, 3, true));
        refused(ARGUMENT, x, () -> x.writeText(2, 2, -1, false));
    }

    static void readRowAheadOfKindAndRefusal() {
        sentence("13 read: no such row, for either, then no such kind, or the row refused, or nothing told");
        Letterloom x = loom();
        refused(PLACE, x, () -> x.read(6, 0, 3));
        refused(PLACE, x, () -> x.read(3, 6, -1));
        refused(PLACE, x, () -> x.read(0, 6, 0));
        refused(PLACE, x, () -> x.read(1, -1, 0));
    }

    static void readKindAheadOfRefusal() {
        sentence("13 read: no such kind, then nothing told of the row");
        Letterloom x = loom();
        refused(ARGUMENT, x, () -> x.read(1, 0, 3));
        refused(ARGUMENT, x, () -> x.read(1, 1, -1));
    }

    static void rowAheadOfKind() {
        sentence("14 to 16: no such row, then no such kind");
        Letterloom x = loom();
        refused(PLACE, x, () -> x.look(6, 3));
        refused(PLACE, x, () -> x.look(-1, -1));
        refused(PLACE, x, () -> x.letters(6, 3));
        refused(PLACE, x, () -> x.letters(-1, -1));
        refused(PLACE, x, () -> x.isWritten(6, 3));
        refused(PLACE, x, () -> x.isWritten(-1, -1));
    }

    static void plainRowAheadOfKind() {
        sentence("17 plain: no such row, then no such kind");
        Letterloom x = loom();
        refused(PLACE, x, () -> x.plain(6, 3));
        refused(PLACE, x, () -> x.plain(-1, -1));
    }

    static void plainKindAheadOfRefusalAndRoom() {
        sentence("17 plain: no such kind, then nothing told, then more than 320 bytes");
        Letterloom x = loom();
        refused(ARGUMENT, x, () -> x.plain(1, 3));
        refused(ARGUMENT, x, () -> x.plain(4, 3));
        refused(ARGUMENT, x, () -> x.plain(2, -1));
    }

    static void plainRefusalAheadOfRoom() {
        sentence("17 plain: the row is refused, or nothing is told of it, then more than 320 bytes");
        Letterloom x = with(times("A", 317), times("A", 317) + "B", times("A", 318) + "B=", times("A", 316) + "=");
        refused(ARGUMENT, x, () -> x.plain(0, 2));
        refused(UNTOLD, x, () -> x.plain(1, 2));
        refused(UNTOLD, x, () -> x.plain(2, 2));
        refused(ARGUMENT, x, () -> x.plain(3, 2));
        due(316, () -> x.remove(0, 0, 1));
        refused(STATE, x, () -> x.plain(0, 2));
    }

    static void figuresRowAheadOfKindAndEmpty() {
        sentence("18, 19: no such row, then no such kind, then empty");
        Letterloom x = loom();
        refused(PLACE, x, () -> x.letterShare(6, 3));
        refused(PLACE, x, () -> x.letterShare(-1, -1));
        refused(PLACE, x, () -> x.growth(6, 3));
        refused(PLACE, x, () -> x.growth(-1, -1));
        refused(ARGUMENT, x, () -> x.letterShare(5, 3));
        refused(ARGUMENT, x, () -> x.letterShare(5, -1));
        refused(ARGUMENT, x, () -> x.growth(5, 3));
        refused(ARGUMENT, x, () -> x.growth(5, -1));
    }

    static void aRefusedCallLeavesTheOthersAsTheyWere() {
        sentence("Exceptions: A method that throws an exception changes nothing. (and the next call answers as due)");
        Letterloom x = with("TQ==", "TR", FULL, "");
        refused(UNTOLD, x, () -> x.read(1, 3, 0));
        due(1, () -> x.read(0, 3, 0));
        refused(STATE, x, () -> x.write(2, 3, 2, true));
        due(4, () -> x.write(3, 4, 2, true));
        refused(STATE, x, () -> x.writeText(2, 3, 2, true));
        due(2, () -> x.writeText(3, 5, 1, false));
        refused(ARGUMENT, x, () -> x.addMore(3, 8, 1, 2, 3, 4, 5, 6, 7, -1));
        due(2, () -> x.addMore(3, 1, 'a', 2, 3, 4, 5, 6, 7, -1));
        due(0, () -> x.remove(2, 0, 320));
        rows(x, "TQ==", "TR", "", "Ma", "TQ==", "TQ");
    }

    public static void main(String[] args) {
        runAll(RefusalsTest.class);
    }
}
