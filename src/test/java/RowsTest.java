/** "Rows" of the Terms and promises 1 to 10, sentence by sentence. */
public final class RowsTest extends Checks {
    private static final String FULL = times("a", 320);
    private static final int LOW = Integer.MIN_VALUE;
    private static final int HIGH = Integer.MAX_VALUE;

    // ---- Terms, and promise 1 ----

    static void thereAreSixRows() {
        sentence("Rows: There are the rows 0 to 5");
        Letterloom x = new Letterloom();
        for (int i = 0; i < 6; i++) {
            int row = i;
            due(1, () -> x.add(row, 'a' + row));
        }
        rows(x, "a", "b", "c", "d", "e", "f");
    }

    static void aRowHoldsEveryByte() {
        sentence("Rows: bytes, 0 to 255");
        StringBuilder all = new StringBuilder();
        for (int number = 0; number < 256; number++) {
            all.append((char) number);
        }
        rows(with(all.toString()), all.toString());
    }

    static void newObject() {
        sentence("1: Creates a loom with empty rows.");
        Letterloom x = new Letterloom();
        rows(x);
        for (int i = 0; i < 6; i++) {
            int row = i;
            refused(PLACE, x, () -> x.get(row, 0));
        }
    }

    static void newObjectsAreApart() {
        sentence("1: Creates a loom with empty rows, whatever another one holds");
        Letterloom x = new Letterloom();
        with("abc", FULL);
        rows(x);
        Letterloom y = new Letterloom();
        x.add(0, 1);
        rows(y);
    }

    // ---- promise 2: add ----

    static void addAnswers() {
        sentence("2 add: Adds a byte behind a row. Returns how many it has then.");
        Letterloom x = new Letterloom();
        due(1, () -> x.add(0, 'a'));
        due(2, () -> x.add(0, 'b'));
        due(1, () -> x.add(5, 'c'));
        due(3, () -> x.add(0, 'a'));
        rows(x, "aba", "", "", "", "", "c");
    }

    static void addLowestAndHighestByte() {
        sentence("2 add: number: the byte, 0 to 255");
        Letterloom x = new Letterloom();
        due(1, () -> x.add(0, 0));
        due(2, () -> x.add(0, 255));
        rows(x, "\0\u00ff");
    }

    static void addNoRow() {
        sentence("2 add: Throws IndexOutOfBoundsException if there is no such row");
        Letterloom x = with("ab");
        noRow(x, row -> x.add(row, 0));
    }

    static void addOutOfRange() {
        sentence("2 add: Throws IllegalArgumentException if the number is out of range");
        Letterloom x = with("ab");
        noByte(x, number -> x.add(0, number));
        due(3, () -> x.add(0, 'c'));
        rows(x, "abc");
    }

    static void addToAFullRow() {
        sentence("2 add: Throws IllegalStateException if it would have more than 320 bytes");
        Letterloom x = with(times("a", 319));
        due(320, () -> x.add(0, 'b'));
        refused(STATE, x, () -> x.add(0, 'c'));
        due((int) 'b', () -> x.get(0, 319));
        due(1, () -> x.add(1, 'c'));
        due(319, () -> x.remove(0, 0, 1));
        due(320, () -> x.add(0, 'd'));
    }

    static void everyRowCanBeFull() {
        sentence("Rows: each of at most 320 bytes");
        Letterloom x = with(FULL, FULL, FULL, FULL, FULL, FULL);
        for (int i = 0; i < 6; i++) {
            int row = i;
            due(320, () -> x.length(row));
            refused(STATE, x, () -> x.add(row, 0));
        }
    }

    // ---- promise 3: addMore ----

    static void addMoreAnswers() {
        sentence("3 addMore: Adds some bytes behind a row. Returns how many it has then.");
        Letterloom x = with("z");
        due(4, () -> x.addMore(0, 3, 'a', 'b', 'c', 'd', 'e', 'f', 'g', 'h'));
        due(12, () -> x.addMore(0, 8, 'a', 'b', 'c', 'd', 'e', 'f', 'g', 'h'));
        rows(x, "zabcabcdefgh");
    }

    static void addMoreOneToEight() {
        sentence("3 addMore: many: how many of the next ones, 1 to 8");
        for (int i = 1; i <= 8; i++) {
            int many = i;
            Letterloom x = new Letterloom();
            due(many, () -> addMore(x, 0, many, 'a', 'b', 'c', 'd', 'e', 'f', 'g', 'h'));
            rows(x, "abcdefgh".substring(0, many));
        }
    }

    static void addMoreTooFewOrMany() {
        sentence("3 addMore: Throws IllegalArgumentException if a number is out of range (many)");
        Letterloom x = with("ab");
        refusedOf(ARGUMENT, x, many -> x.addMore(0, many, 1, 1, 1, 1, 1, 1, 1, 1), 0, 9, -1, LOW, HIGH);
    }

    private static int[] eightWith(int place, int number) {
        int[] eight = {'a', 'b', 'c', 'd', 'e', 'f', 'g', 'h'};
        eight[place] = number;
        return eight;
    }

    static void addMoreOutOfRange() {
        sentence("3 addMore: Throws IllegalArgumentException if a number is out of range (a byte)");
        for (int i = 0; i < 8; i++) {
            int place = i;
            Letterloom x = with("z");
            noByte(x, number -> addMore(x, 0, 8, eightWith(place, number)));
            noByte(x, number -> addMore(x, 0, place + 1, eightWith(place, number)));
            rows(x, "z");
        }
    }

    static void addMoreLowestAndHighestByte() {
        sentence("3 addMore: a to h: a byte (0 and 255 are none that is out of range)");
        for (int i = 0; i < 8; i++) {
            int place = i;
            Letterloom x = new Letterloom();
            due(place + 1, () -> addMore(x, 0, place + 1, eightWith(place, 0)));
            due(0, () -> x.get(0, place));
            due(2 * place + 2, () -> addMore(x, 0, place + 1, eightWith(place, 255)));
            due(255, () -> x.get(0, 2 * place + 1));
        }
    }

    static void addMoreDoesNotLookAtTheRest() {
        sentence("3 addMore: those that are not added are not looked at");
        for (int i = 1; i < 8; i++) {
            int many = i;
            Letterloom x = new Letterloom();
            due(many, () -> addMore(x, 0, many, eightWith(many, -1)));
            due(2 * many, () -> addMore(x, 0, many, eightWith(7, 256)));
            rows(x, times("abcdefgh".substring(0, many), 2));
        }
    }

    static void addMoreNoRow() {
        sentence("3 addMore: Throws IndexOutOfBoundsException if there is no such row");
        Letterloom x = with("ab");
        noRow(x, row -> x.addMore(row, 8, 1, 1, 1, 1, 1, 1, 1, 1));
    }

    static void addMoreToAFullRow() {
        sentence("3 addMore: Throws IllegalStateException if it would have more than 320 bytes");
        for (int i = 1; i <= 8; i++) {
            int many = i;
            Letterloom x = with(times("z", 320 - many + 1));
            refused(STATE, x, () -> addMore(x, 0, many, 'a', 'b', 'c', 'd', 'e', 'f', 'g', 'h'));
            due(320 - many, () -> x.remove(0, 0, 1));
            due(320, () -> addMore(x, 0, many, 'a', 'b', 'c', 'd', 'e', 'f', 'g', 'h'));
            due('a' + many - 1, () -> x.get(0, 319));
            refused(STATE, x, () -> addMore(x, 0, many, 'a', 'b', 'c', 'd', 'e', 'f', 'g', 'h'));
        }
    }

    // ---- promise 4: put ----

    static void putAnswers() {
        sentence("4 put: Puts a byte in place of another one. Returns the one that was there.");
        Letterloom x = with("abc");
        due((int) 'b', () -> x.put(0, 1, 'x'));
        due((int) 'x', () -> x.put(0, 1, 'y'));
        due((int) 'y', () -> x.put(0, 1, 'y'));
        rows(x, "ayc");
    }

    static void putFirstAndLastPlace() {
        sentence("4 put: place: from 0");
        Letterloom x = with("abc", FULL);
        due((int) 'a', () -> x.put(0, 0, 'x'));
        due((int) 'c', () -> x.put(0, 2, 'z'));
        due((int) 'a', () -> x.put(1, 0, 'x'));
        due((int) 'a', () -> x.put(1, 319, 'z'));
        rows(x, "xbz", "x" + times("a", 318) + "z");
    }

    static void putLowestAndHighestByte() {
        sentence("4 put: number: the byte, 0 to 255");
        Letterloom x = with("a");
        due((int) 'a', () -> x.put(0, 0, 255));
        due(255, () -> x.put(0, 0, 0));
        due(0, () -> x.get(0, 0));
    }

    static void putNoRow() {
        sentence("4 put: Throws IndexOutOfBoundsException if there is no such row");
        Letterloom x = with("a", "a", "a", "a", "a", "a");
        noRow(x, row -> x.put(row, 0, 0));
    }

    static void putNoPlace() {
        sentence("4 put: Throws IndexOutOfBoundsException if there is no such place");
        Letterloom x = with("abc", "", FULL);
        refusedOf(PLACE, x, place -> x.put(0, place, 0), 3, -1, LOW, HIGH);
        refused(PLACE, x, () -> x.put(1, 0, 0));
        refused(PLACE, x, () -> x.put(2, 320, 0));
        due(2, () -> x.remove(0, 2, 1));
        refused(PLACE, x, () -> x.put(0, 2, 0));
    }

    static void putOutOfRange() {
        sentence("4 put: Throws IllegalArgumentException if the number is out of range");
        Letterloom x = with("abc");
        noByte(x, number -> x.put(0, 0, number));
        noByte(x, number -> x.put(0, 2, number));
        rows(x, "abc");
    }

    // ---- promise 5: insert ----

    static void insertAnswers() {
        sentence("5 insert: Puts a byte between others; place: the place that it has then. Returns how many then.");
        Letterloom x = with("ac");
        due(3, () -> x.insert(0, 1, 'b'));
        due((int) 'b', () -> x.get(0, 1));
        rows(x, "abc");
    }

    static void insertFirstAndLastPlace() {
        sentence("5 insert: the place is 0 to its length");
        Letterloom x = new Letterloom();
        due(1, () -> x.insert(0, 0, 'b'));
        due(2, () -> x.insert(0, 0, 'a'));
        due(3, () -> x.insert(0, 2, 'c'));
        rows(x, "abc");
    }

    static void insertNoRow() {
        sentence("5 insert: Throws IndexOutOfBoundsException if there is no such row");
        Letterloom x = with("ab");
        noRow(x, row -> x.insert(row, 0, 0));
    }

    static void insertNoPlace() {
        sentence("5 insert: Throws IndexOutOfBoundsException if the place is not 0 to its length");
        Letterloom x = with("ab");
        refusedOf(PLACE, x, place -> x.insert(0, place, 0), 3, -1, LOW, HIGH);
        refused(PLACE, x, () -> x.insert(1, 1, 0));
    }

    static void insertLowestAndHighestByte() {
        sentence("5 insert: number: the byte, 0 to 255");
        Letterloom x = with("a");
        due(2, () -> x.insert(0, 0, 255));
        due(3, () -> x.insert(0, 0, 0));
        rows(x, "\0\u00ffa");
    }

    static void insertOutOfRange() {
        sentence("5 insert: Throws IllegalArgumentException if the number is out of range");
        Letterloom x = with("ab");
        noByte(x, number -> x.insert(0, 0, number));
        noByte(x, number -> x.insert(0, 2, number));
        rows(x, "ab");
    }

    static void insertIntoAFullRow() {
        sentence("5 insert: Throws IllegalStateException if it would have more than 320 bytes");
        Letterloom x = with(times("a", 319));
        due(320, () -> x.insert(0, 0, 'x'));
        refused(STATE, x, () -> x.insert(0, 0, 'y'));
        refused(STATE, x, () -> x.insert(0, 160, 'y'));
        refused(STATE, x, () -> x.insert(0, 320, 'y'));
        rows(x, "x" + times("a", 319));
    }

    static void insertBehindUpToTheLastPlace() {
        sentence("5 insert: the place that it has then (the last one of a full row)");
        Letterloom x = with(times("a", 319));
        due(320, () -> x.insert(0, 319, 'x'));
        due((int) 'x', () -> x.get(0, 319));
        due((int) 'a', () -> x.get(0, 318));
    }

    // ---- promise 6: remove ----

    static void removeAnswers() {
        sentence("6 remove: Takes bytes out of a row. Returns how many it has then.");
        Letterloom x = with("abcdef");
        due(4, () -> x.remove(0, 1, 2));
        rows(x, "adef");
        due(3, () -> x.remove(0, 0, 1));
        due(2, () -> x.remove(0, 2, 1));
        rows(x, "de");
    }

    static void removeNone() {
        sentence("6 remove: many: how many, 0 or more (none)");
        Letterloom x = with("abc", "", FULL);
        kept(3, x, () -> x.remove(0, 0, 0));
        kept(3, x, () -> x.remove(0, 2, 0));
        kept(3, x, () -> x.remove(0, 3, 0));
        kept(0, x, () -> x.remove(1, 0, 0));
        kept(320, x, () -> x.remove(2, 320, 0));
    }

    static void removeAll() {
        sentence("6 remove: many: how many, 0 or more (all)");
        Letterloom x = with("abc", FULL);
        due(0, () -> x.remove(0, 0, 3));
        due(0, () -> x.remove(1, 0, 320));
        rows(x);
        due(1, () -> x.add(1, 'b'));
        rows(x, "", "b");
    }

    static void removeNoRow() {
        sentence("6 remove: Throws IndexOutOfBoundsException if there is no such row");
        Letterloom x = with("ab");
        noRow(x, row -> x.remove(row, 0, 0));
    }

    static void removeBelowNone() {
        sentence("6 remove: Throws IndexOutOfBoundsException if the number is below 0");
        Letterloom x = with("abc");
        refused(PLACE, x, () -> x.remove(0, 0, -1));
        refused(PLACE, x, () -> x.remove(0, 3, -1));
        refused(PLACE, x, () -> x.remove(0, 0, LOW));
        refused(PLACE, x, () -> x.remove(0, 5, -3));
        refused(PLACE, x, () -> x.remove(0, LOW, LOW));
        refused(PLACE, x, () -> x.remove(0, HIGH, LOW));
    }

    static void removeNotSoMany() {
        sentence("6 remove: Throws IndexOutOfBoundsException if there are not so many there");
        Letterloom x = with("abc", "", FULL);
        refused(PLACE, x, () -> x.remove(0, 0, 4));
        refused(PLACE, x, () -> x.remove(0, 1, 3));
        refused(PLACE, x, () -> x.remove(0, 3, 1));
        refused(PLACE, x, () -> x.remove(1, 0, 1));
        refused(PLACE, x, () -> x.remove(2, 0, 321));
        refused(PLACE, x, () -> x.remove(2, 1, 320));
        refused(PLACE, x, () -> x.remove(0, 0, HIGH));
        refused(PLACE, x, () -> x.remove(0, 1, HIGH));
        refused(PLACE, x, () -> x.remove(0, HIGH, HIGH));
    }

    static void removeNoPlace() {
        sentence("6 remove: Throws IndexOutOfBoundsException if there are not so many there (no such place)");
        Letterloom x = with("abc");
        refused(PLACE, x, () -> x.remove(0, -1, 1));
        refused(PLACE, x, () -> x.remove(0, -1, 0));
        refused(PLACE, x, () -> x.remove(0, 4, 0));
        refused(PLACE, x, () -> x.remove(0, 4, 1));
        refused(PLACE, x, () -> x.remove(0, LOW, 1));
        refused(PLACE, x, () -> x.remove(0, LOW, HIGH));
        refused(PLACE, x, () -> x.remove(0, HIGH, 0));
        refused(PLACE, x, () -> x.remove(0, HIGH, 1));
    }

    // ---- promises 7 and 8: length and get ----

    static void lengthAnswers() {
        sentence("7 length: Returns how many bytes a row has. (none, some, all that can be)");
        Letterloom x = with("", "abc", FULL);
        kept(0, x, () -> x.length(0));
        kept(3, x, () -> x.length(1));
        kept(320, x, () -> x.length(2));
    }

    static void lengthNoRow() {
        sentence("7 length: Throws IndexOutOfBoundsException if there is no such row");
        Letterloom x = with("ab");
        noRow(x, row -> x.length(row));
    }

    static void getAnswers() {
        sentence("8 get: Returns a byte of a row; place: from 0");
        Letterloom x = with("abc", "\0\u00ff", times("a", 319) + "z");
        kept((int) 'a', x, () -> x.get(0, 0));
        kept((int) 'c', x, () -> x.get(0, 2));
        kept(0, x, () -> x.get(1, 0));
        kept(255, x, () -> x.get(1, 1));
        kept((int) 'z', x, () -> x.get(2, 319));
    }

    static void getNoRow() {
        sentence("8 get: Throws IndexOutOfBoundsException if there is no such row");
        Letterloom x = with("a", "a", "a", "a", "a", "a");
        noRow(x, row -> x.get(row, 0));
    }

    static void getNoPlace() {
        sentence("8 get: Throws IndexOutOfBoundsException if there is no such place");
        Letterloom x = with("abc", "", FULL);
        refusedOf(PLACE, x, place -> x.get(0, place), 3, -1, LOW, HIGH);
        refused(PLACE, x, () -> x.get(1, 0));
        refused(PLACE, x, () -> x.get(2, 320));
        due(2, () -> x.remove(0, 0, 1));
        refused(PLACE, x, () -> x.get(0, 2));
    }

    // ---- promises 9 and 10: copy and isLike ----

    static void copyAnswers() {
        sentence("9 copy: Copies a row: another one becomes what it is. Returns how many bytes it has.");
        Letterloom x = with("abc", "longer than that");
        due(3, () -> x.copy(0, 1));
        due(3, () -> x.copy(0, 5));
        rows(x, "abc", "abc", "", "", "", "abc");
    }

    static void copyMakesNoBond() {
        sentence("9 copy: another one becomes what it is (and both go on apart)");
        Letterloom x = with("abc");
        due(3, () -> x.copy(0, 1));
        due((int) 'a', () -> x.put(1, 0, 'z'));
        due(4, () -> x.add(0, 'd'));
        rows(x, "abcd", "zbc");
    }

    static void copyToTheSameRow() {
        sentence("9 copy: to: the row that becomes what the first one is, perhaps the same one");
        Letterloom x = with("abc", "", FULL);
        kept(3, x, () -> x.copy(0, 0));
        kept(0, x, () -> x.copy(1, 1));
        kept(320, x, () -> x.copy(2, 2));
    }

    static void copyEmptyAndFull() {
        sentence("9 copy: another one becomes what it is (empty, full)");
        Letterloom x = with(FULL, "");
        due(320, () -> x.copy(0, 2));
        due(true, () -> x.isLike(0, 2));
        due(0, () -> x.copy(1, 0));
        due(0, () -> x.length(0));
        due(320, () -> x.length(2));
    }

    static void copyNoRow() {
        sentence("9 copy: Throws IndexOutOfBoundsException if there is no such row, for either");
        Letterloom x = with("ab", "c");
        noRow(x, row -> x.copy(row, 0));
        noRow(x, row -> x.copy(0, row));
        noRow(x, row -> x.copy(row, row));
    }

    static void isLikeAnswers() {
        sentence("10 isLike: Tells whether two rows have the same bytes.");
        Letterloom x = with("abc", "abc", "abd", "zbc", "ab", "\u00e1bc");
        kept(true, x, () -> x.isLike(0, 1));
        kept(false, x, () -> x.isLike(0, 2));
        kept(false, x, () -> x.isLike(0, 3));
        kept(false, x, () -> x.isLike(0, 4));
        kept(false, x, () -> x.isLike(4, 0));
        kept(false, x, () -> x.isLike(0, 5));
    }

    static void isLikeItself() {
        sentence("10 isLike: other: another one (the same one has the same bytes)");
        Letterloom x = with("abc");
        kept(true, x, () -> x.isLike(0, 0));
        kept(true, x, () -> x.isLike(5, 5));
    }

    static void isLikeEmptyAndFull() {
        sentence("10 isLike: Tells whether two rows have the same bytes. (empty, full)");
        Letterloom x = with(FULL, FULL, times("a", 319) + "b", "a");
        kept(true, x, () -> x.isLike(4, 5));
        kept(false, x, () -> x.isLike(3, 4));
        kept(false, x, () -> x.isLike(4, 3));
        kept(true, x, () -> x.isLike(0, 1));
        kept(false, x, () -> x.isLike(0, 2));
    }

    static void isLikeWithoutGoneBytes() {
        sentence("10 isLike: Tells whether two rows have the same bytes. (those that were taken out are none)");
        Letterloom x = with("abc", "abd");
        due(2, () -> x.remove(0, 2, 1));
        due(2, () -> x.remove(1, 2, 1));
        kept(true, x, () -> x.isLike(0, 1));
    }

    static void isLikeNoRow() {
        sentence("10 isLike: Throws IndexOutOfBoundsException if there is no such row, for either");
        Letterloom x = with("ab");
        noRow(x, row -> x.isLike(row, 0));
        noRow(x, row -> x.isLike(0, row));
        noRow(x, row -> x.isLike(row, row));
    }

    public static void main(String[] args) {
        runAll(RowsTest.class);
    }
}
