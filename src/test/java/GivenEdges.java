import java.util.List;
import java.util.function.Supplier;

/** The boundary cases of promises 1 to 9: the row, and matroids that are given. */
final class GivenEdges extends Edges {

    private static final String OUT_OF_RANGE = "Throws `IllegalArgumentException` if it is out of range";
    private static final String SIZE = "- `size`: the number of elements, 0 to 10";

    GivenEdges(Due due) {
        super(due);
    }

    @Override
    void all() {
        newObject();
        typing();
        typingNumbersOutOfRange();
        typingBehindSixty();
        erasing();
        uniforms();
        uniformsOutOfRange();
        graphs();
        rowsThatAreNoGraph();
        columnsOfFields();
        noSuchFieldOrNumber();
        rowsThatAreNoColumns();
        meetings();
        meetingSizes();
        rowsThatAreNoPlaces();
        givenBases();
        basesSizes();
        rowsThatAreNoBases();
        brokenThings();
        nothingBroken();
        brokenLast();
    }

    // ---- promises 1 to 3

    private void newObject() {
        sentence(1, "Creates a house without matroids, with an empty row.");
        is(0, empty().matroids());
        refused(INDEX, Edges::empty, house -> house.size(0));
        is(0, empty().erase());
        is(1, empty().type(5));
        Circuitfold house = empty();
        is(0, house.graph());
        is("0: 0", shape(house, 0));
        house.type(7);
        is(0, empty().matroids());
        is(0, empty().erase());
    }

    /** A row of so many numbers, of which columns over the field of 5 can be made. */
    private static Circuitfold rowOf(int count) {
        Circuitfold house = empty();
        for (int i = 0; i < count; i++) {
            house.type(i * i % 5);
        }
        return house;
    }

    private void typing() {
        sentence(2, "Types a number behind the row.");
        Circuitfold house = typed(empty(), 1, 0, 1, 0, 0, 1);
        house.columns(2, 2);
        is("3", list(house, 0, 'c'));
        typed(house, 0, 1, 1, 0, 1, 0).columns(2, 2);
        is("6", list(house, 1, 'c'));
        sentence(2, "- `number`: the number, 0 to 1023");
        is(1, empty().type(0));
        is(1, empty().type(1));
        is(1, empty().type(1022));
        is(1, empty().type(1023));
        is("10: 0", shape(basesOf(10, 0), 0));
        is("10: 1023", shape(basesOf(10, 1023), 0));
        sentence(2, "Returns how many the row has.");
        Circuitfold long60 = empty();
        for (int count = 1; count <= 60; count++) {
            is(count, long60.type(1023));
        }
        long60.erase();
        is(1, long60.type(0));
    }

    private static Circuitfold basesOf(int size, int... sets) {
        Circuitfold house = typed(empty(), sets);
        house.bases(size);
        return house;
    }

    private void typingNumbersOutOfRange() {
        sentence(2, OUT_OF_RANGE);
        for (int number : new int[] {-1, 1024, 1025, -1023, LEAST, GREATEST}) {
            refused(ARGUMENT, Edges::empty, house -> house.type(number));
            refused(ARGUMENT, () -> rowOf(59), house -> house.type(number));
            refused(ARGUMENT, () -> rowOf(60), house -> house.type(number));
        }
    }

    private void typingBehindSixty() {
        sentence(2, "Throws `IllegalStateException` if it has 60");
        is(59, rowOf(58).type(1023));
        is(60, rowOf(59).type(0));
        is(60, rowOf(59).type(1023));
        for (int number : new int[] {0, 1, 1023}) {
            refused(STATE, () -> rowOf(60), house -> house.type(number));
        }
        Circuitfold house = rowOf(60);
        is(0, house.columns(5, 6));
        is(1, house.type(0));
    }

    private void erasing() {
        sentence(3, "Takes all out of the row.");
        for (int count : new int[] {0, 1, 59, 60}) {
            Circuitfold house = rowOf(count);
            house.erase();
            is(1, house.type(4));
            is(1, house.erase());
            is(0, house.graph());
            is("0: 0", shape(house, 0));
        }
        Circuitfold house = typed(full(triangle()), 1, 2);
        house.erase();
        is(24, house.matroids());
        is("4: 11 13 14", shape(house, 0));
        sentence(3, "Returns how many there were.");
        for (int count = 0; count <= 60; count++) {
            Circuitfold row = rowOf(count);
            is(count, row.erase());
            is(0, row.erase());
        }
        is(2, typed(full(), 1, 2).erase());
    }

    // ---- promise 4

    private void uniforms() {
        sentence(4, "Makes the matroid in which all sets of at most some elements are independent.");
        is("0: 0", shape(uniform(0, 0)));
        is("1: 0", shape(uniform(0, 1)));
        is("1: 1", shape(uniform(1, 1)));
        is("3: 3 5 6", shape(uniform(2, 3)));
        is("0 1 2 3 4 5 6", list(houseOf(uniform(2, 3)), 0, 'i'));
        is("10: 1023", shape(uniform(10, 10)));
        is("10: 0", shape(uniform(0, 10)));
        Circuitfold house = typed(empty(), 3, 4);
        is(0, house.uniform(1, 2));
        is(2, house.erase());
        sentence(4, "- `rank`: the rank, 0 to 10");
        for (int rank = 0; rank <= 10; rank++) {
            is(rank, houseOf(uniform(rank, 10)).rank(0, 1023));
        }
        sentence(4, "- `size`: the number of elements, from the rank to 10");
        for (int size = 3; size <= 10; size++) {
            is(size, houseOf(uniform(3, size)).size(0));
            is(size, houseOf(uniform(0, size)).size(0));
            is(size, houseOf(uniform(size, size)).size(0));
        }
        makesAnew(4, 0, made -> { }, made -> made.uniform(1, 2));
    }

    private void uniformsOutOfRange() {
        sentence(4, "Throws `IllegalArgumentException` if a number is out of range");
        int[][] wrong = {
            {-1, 0}, {-1, -1}, {-1, 5}, {-1, 10}, {LEAST, 5}, {LEAST, LEAST}, {11, 11}, {11, 10}, {11, 5}, {GREATEST, 10},
            {GREATEST, GREATEST}, {0, 11}, {10, 11}, {5, 11}, {5, GREATEST}, {0, GREATEST}, {0, -1}, {0, LEAST},
            {1, 0}, {5, 4}, {10, 9}, {10, 0}, {10, -1},
        };
        for (int[] pair : wrong) {
            refused(ARGUMENT, Edges::empty, house -> house.uniform(pair[0], pair[1]));
            refused(ARGUMENT, Edges::full, house -> house.uniform(pair[0], pair[1]));
        }
    }

    // ---- promise 5

    private void graphs() {
        sentence(5, "Makes a matroid of a graph.");
        is("0: 0", shape(graph()));
        is("1: 0", shape(graph(0, 0)));
        is("1: 0", shape(graph(9, 9)));
        is("1: 1", shape(graph(0, 9)));
        is("1: 1", shape(graph(9, 0)));
        is("2: 1 2", shape(graph(8, 9, 9, 8)));
        is("10: 0", shape(graph(times(20, 9))));
        is("10: 511", shape(graph(0, 1, 1, 2, 2, 3, 3, 4, 4, 5, 5, 6, 6, 7, 7, 8, 8, 9, 3, 3)));
        is("10: 1 2 4 8 16 32 64 128 256 512",
                shape(graph(0, 9, 9, 0, 0, 9, 9, 0, 0, 9, 9, 0, 0, 9, 9, 0, 0, 9, 9, 0)));
        makesAnew(5, 2, house -> typed(house, 1, 2), Circuitfold::graph);
        Circuitfold house = houseOf(triangle());
        is(0, house.erase());
    }

    private void rowsThatAreNoGraph() {
        sentence(5, "Throws `UnsupportedOperationException` if the row has an odd number of them, more than 20, "
                + "or one greater than 9");
        for (int count : new int[] {1, 3, 9, 11, 17, 19, 21, 59, 22, 24, 40, 60}) {
            refused(UNSUPPORTED, () -> typed(empty(), times(count, 1)), Circuitfold::graph);
            refused(UNSUPPORTED, () -> typed(full(), times(count, 1)), Circuitfold::graph);
        }
        for (int count : new int[] {2, 4, 18, 20}) {
            is(0, typed(empty(), times(count, 1)).graph());
            for (int index : new int[] {0, 1, count - 2, count - 1}) {
                for (int vertex : new int[] {10, 11, 16, 1023}) {
                    int[] row = with(times(count, 9), index, vertex);
                    refused(UNSUPPORTED, () -> typed(empty(), row), Circuitfold::graph);
                    refused(UNSUPPORTED, () -> typed(full(), row), Circuitfold::graph);
                }
            }
        }
        refused(UNSUPPORTED, () -> typed(empty(), 1, 2, 10), Circuitfold::graph);
        refused(UNSUPPORTED, () -> typed(full(), times(21, 10)), Circuitfold::graph);
        sentence(5, FULL);
        refused(STATE, () -> typed(full()), Circuitfold::graph);
        refused(STATE, () -> typed(full(), times(20, 9)), Circuitfold::graph);
    }

    // ---- promise 6

    private void columnsOfFields() {
        sentence(6, "Makes a matroid of columns over a field, told one column behind the other.");
        is("0: 0", shape(columns(2, 1)));
        is("0: 0", shape(columns(5, 6)));
        is("1: 0", shape(columns(5, 6, 0, 0, 0, 0, 0, 0)));
        is("1: 1", shape(columns(5, 6, 0, 0, 0, 0, 0, 4)));
        is("3: 3 6", shape(columns(2, 2, 1, 0, 0, 1, 1, 0)));
        is("10: 0", shape(columns(3, 6, times(60, 0))));
        is("10: 1 2 4 8 16 32 64 128 256 512", shape(columns(5, 6, times(60, 4))));
        sentence(6, "- `field`: the field, 2, 3 or 5");
        is("2: 1 2", shape(columns(2, 2, 1, 1, 1, 1)));
        is("2: 3", shape(columns(3, 2, 1, 1, 1, 2)));
        is("2: 1 2", shape(columns(3, 2, 1, 2, 2, 1)));
        is("2: 3", shape(columns(5, 2, 1, 2, 2, 1)));
        is("2: 1 2", shape(columns(5, 2, 1, 2, 2, 4)));
        is("2: 1 2", shape(columns(5, 2, 3, 1, 4, 3)));
        is("1: 1", shape(columns(5, 1, 4)));
        sentence(6, "- `rows`: the number of rows, 1 to 6");
        for (int rows = 1; rows <= 6; rows++) {
            int[] entries = times(rows * rows, 0);
            for (int i = 0; i < rows; i++) {
                entries[i * rows + i] = 1;
            }
            is(rows + ": " + ((1 << rows) - 1), shape(columns(2, rows, entries)));
            is(10, houseOf(columns(2, rows, times(10 * rows, 1))).size(0));
        }
        makesAnew(6, 2, house -> typed(house, 1, 0), house -> house.columns(2, 2));
    }

    private void noSuchFieldOrNumber() {
        sentence(6, "Throws `IllegalArgumentException` if there is no such field or number");
        for (int field : new int[] {-5, -3, -2, -1, 0, 1, 4, 6, 7, 8, 9, 25, LEAST, GREATEST}) {
            refused(ARGUMENT, Edges::empty, house -> house.columns(field, 2));
            refused(ARGUMENT, () -> typed(empty(), 0, 0, 1), house -> house.columns(field, 2));
            refused(ARGUMENT, () -> typed(full(), 0, 1), house -> house.columns(field, 2));
            refused(ARGUMENT, () -> typed(full(), 9, 9, 9), house -> house.columns(field, 2));
            refused(ARGUMENT, () -> typed(full(), 9, 9, 9), house -> house.columns(field, 7));
        }
        for (int rows : new int[] {-1, 0, 7, 8, -6, LEAST, GREATEST}) {
            for (int field : new int[] {2, 3, 5}) {
                refused(ARGUMENT, Edges::empty, house -> house.columns(field, rows));
                refused(ARGUMENT, () -> typed(empty(), 1, 9), house -> house.columns(field, rows));
                refused(ARGUMENT, () -> typed(full(), times(7, 1)), house -> house.columns(field, rows));
                refused(ARGUMENT, () -> typed(full(), times(11, 9)), house -> house.columns(field, rows));
            }
        }
    }

    private void rowsThatAreNoColumns() {
        sentence(6, "Throws `UnsupportedOperationException` if the row cannot be parted into columns, would be more "
                + "than 10, or a number is not less than the field");
        for (int rows = 1; rows <= 6; rows++) {
            is(0, typed(empty(), times(10 * rows, 1)).columns(2, rows));
            for (int count : new int[] {1, rows - 1, rows + 1, 10 * rows - 1, 10 * rows + 1, 59}) {
                if (count % rows != 0 && count <= 60) {
                    refusedColumns(3, rows, times(count, 1));
                }
            }
            for (int count = 11; count * rows <= 60; count++) {
                refusedColumns(3, rows, times(count * rows, 1));
            }
        }
        for (int field : new int[] {2, 3, 5}) {
            is(0, typed(empty(), times(4, field - 1)).columns(field, 2));
            for (int index = 0; index < 4; index++) {
                refusedColumns(field, 2, with(times(4, field - 1), index, field));
                refusedColumns(field, 2, with(times(4, 0), index, field + 1));
                refusedColumns(field, 2, with(times(4, 0), index, 1023));
            }
            refusedColumns(field, 2, times(3, field));
            refusedColumns(field, 2, times(22, field));
        }
        refusedColumns(2, 3, times(6, 2));
        refusedColumns(3, 3, times(6, 4));
    }

    private void refusedColumns(int field, int rows, int[] row) {
        refused(UNSUPPORTED, () -> typed(empty(), row), house -> house.columns(field, rows));
        refused(UNSUPPORTED, () -> typed(full(), row), house -> house.columns(field, rows));
    }

    // ---- promise 7

    private void meetings() {
        sentence(7, "Makes a matroid of sets that meet; each number of the row is the set of elements of a place.");
        is("0: 0", shape(meeting(0)));
        is("0: 0", shape(meeting(0, times(10, 0))));
        is("3: 0", shape(meeting(3)));
        is("3: 0", shape(meeting(3, 0)));
        is("3: 1 2 4", shape(meeting(3, 7)));
        is("3: 3 5 6", shape(meeting(3, 7, 7)));
        is("3: 7", shape(meeting(3, times(10, 7))));
        is("10: 1023", shape(meeting(10, times(10, 1023))));
        is("10: 512", shape(meeting(10, times(10, 512))));
        makesAnew(7, 1, house -> typed(house, 1), house -> house.meeting(1));
    }

    private void meetingSizes() {
        sentence(7, SIZE);
        for (int size = 0; size <= 10; size++) {
            is(size, houseOf(meeting(size)).size(0));
            is(size + ": " + ((1 << size) - 1), shape(meeting(size, times(size, (1 << size) - 1))));
        }
        sentence(7, OUT_OF_RANGE);
        for (int size : new int[] {-1, 11, 32, -32, LEAST, GREATEST}) {
            refused(ARGUMENT, Edges::empty, house -> house.meeting(size));
            refused(ARGUMENT, () -> typed(empty(), times(11, 1023)), house -> house.meeting(size));
            refused(ARGUMENT, () -> typed(full(), 1), house -> house.meeting(size));
            refused(ARGUMENT, () -> typed(full(), times(11, 1)), house -> house.meeting(size));
        }
    }

    private void rowsThatAreNoPlaces() {
        sentence(7, "Throws `UnsupportedOperationException` if the row has more than 10, or a set has other elements");
        for (int count : new int[] {11, 12, 20, 60}) {
            refusedMeeting(10, times(count, 1));
            refusedMeeting(0, times(count, 0));
        }
        is(0, typed(empty(), times(10, 1)).meeting(10));
        is(0, typed(empty(), times(9, 1)).meeting(10));
        for (int size = 0; size < 10; size++) {
            int greatest = (1 << size) - 1;
            is(0, typed(empty(), greatest, greatest).meeting(size));
            refusedMeeting(size, greatest + 1);
            refusedMeeting(size, 0, greatest + 1);
            refusedMeeting(size, greatest + 1, 0);
            refusedMeeting(size, 1023);
        }
        refusedMeeting(9, times(11, 512));
    }

    private void refusedMeeting(int size, int... row) {
        refused(UNSUPPORTED, () -> typed(empty(), row), house -> house.meeting(size));
        refused(UNSUPPORTED, () -> typed(full(), row), house -> house.meeting(size));
    }

    // ---- promise 8

    private void givenBases() {
        sentence(8, "Makes a matroid of its bases; the same one may be typed again.");
        is("0: 0", shape(bases(0, 0)));
        is("0: 0", shape(bases(0, times(60, 0))));
        is("3: 0", shape(bases(3, 0)));
        is("3: 3 5", shape(bases(3, 5, 3, 5, 5, 3)));
        is("10: 1023", shape(bases(10, times(60, 1023))));
        is("10: 1 512", shape(bases(10, 512, 1)));
        int[] triples = new int[60];
        int next = 0;
        for (int round = 0; round < 3; round++) {
            for (int set = 63; set >= 0; set--) {
                if (Integer.bitCount(set) == 3) {
                    triples[next++] = set;
                }
            }
        }
        is(shape(uniform(3, 6)), shape(bases(6, triples)));
        makesAnew(8, 2, house -> typed(house, 1, 2), house -> house.bases(2));
    }

    private void basesSizes() {
        sentence(8, SIZE);
        for (int size = 0; size <= 10; size++) {
            is(size + ": " + ((1 << size) - 1), shape(bases(size, (1 << size) - 1)));
            is(size + ": 0", shape(bases(size, 0)));
        }
        sentence(8, OUT_OF_RANGE);
        for (int size : new int[] {-1, 11, 32, -32, LEAST, GREATEST}) {
            refused(ARGUMENT, Edges::empty, house -> house.bases(size));
            refused(ARGUMENT, () -> typed(empty(), 0), house -> house.bases(size));
            refused(ARGUMENT, () -> typed(empty(), 3, 12), house -> house.bases(size));
            refused(ARGUMENT, () -> typed(full(), 1), house -> house.bases(size));
            refused(ARGUMENT, () -> typed(full(), 3, 1023), house -> house.bases(size));
            // No bases are looked at then, so what was broken last is told still.
            refused(ARGUMENT, () -> typed(brokenHouse(), 1), house -> house.bases(size));
        }
    }

    /** Bases were broken in it last: 3, 12 and 0; the row is empty. */
    private static Circuitfold brokenHouse() {
        return breakIn(empty());
    }

    private static Circuitfold breakIn(Circuitfold house) {
        Due.outcome(() -> typed(house, 3, 12).bases(4));
        house.erase();
        return house;
    }

    private void rowsThatAreNoBases() {
        sentence(8, "Throws `UnsupportedOperationException` if a set has other elements, or they are no bases");
        for (int size = 0; size < 10; size++) {
            int greatest = (1 << size) - 1;
            is(0, typed(empty(), greatest).bases(size));
            refusedBases(NONE, size, greatest + 1);
            refusedBases(NONE, size, 0, greatest + 1);
            refusedBases(NONE, size, greatest + 1, 0);
            refusedBases(NONE, size, 1023);
            refusedBases(NONE, size);
        }
        refusedBases(NONE, 10);
        refusedBases(NONE, 4, 1, 3);
        refusedBases(NONE, 4, 3, 1);
        refusedBases(NONE, 4, 0, 15);
        refusedBases(NONE, 10, 1023, 511);
        refusedBases(NONE, 6, 3, 12, 64);
        refusedBases(NONE, 6, 3, 12, 48, 1);
        refusedBases("3 12 0", 4, 3, 12);
        refusedBases("3 12 0", 4, 12, 3);
        refusedBases("3 768 0", 10, 768, 3);
        refusedBases("31 992 0", 10, 992, 31);
        sentence(8, FULL);
        refusedTelling(STATE, NONE, () -> typed(breakIn(full()), 1, 2), house -> house.bases(2));
    }

    private void refusedBases(Object broken, int size, int... row) {
        refusedTelling(UNSUPPORTED, broken, () -> typed(empty(), row), house -> house.bases(size));
        refusedTelling(UNSUPPORTED, broken, () -> typed(full(), row), house -> house.bases(size));
        refusedTelling(UNSUPPORTED, broken, () -> typed(breakIn(empty()), row), house -> house.bases(size));
        refusedTelling(UNSUPPORTED, broken, () -> typed(breakIn(full()), row), house -> house.bases(size));
    }

    // ---- promise 9

    private void brokenThings() {
        sentence(9, "- `what`: 'a' the first set, 'b' the second one, 'x' the element");
        Circuitfold house = typed(empty(), 5, 10, 12);
        Due.outcome(() -> house.bases(4));
        is(5, house.broken('a'));
        is(10, house.broken('b'));
        is(2, house.broken('x'));
        sentence(9, "Returns the number.");
        Circuitfold great = typed(empty(), 1023 ^ 3, 1023 ^ 96, 1023 ^ 768);
        Due.outcome(() -> great.bases(10));
        is(255, great.broken('a'));
        is(927, great.broken('b'));
        is(5, great.broken('x'));
        sentence(9, "Throws `IllegalArgumentException` if there is no such thing");
        for (char what : new char[] {'A', 'B', 'X', 'c', 'w', 'y', '`', 'z', ' ', 0, 'a' + 256, 'x' + 256, 65535}) {
            refused(ARGUMENT, GivenEdges::brokenHouse, asked -> asked.broken(what));
            refused(ARGUMENT, Edges::empty, asked -> asked.broken(what));
            refused(ARGUMENT, () -> breakIn(full()), asked -> asked.broken(what));
        }
    }

    private void nothingBroken() {
        sentence(9, "Throws `NoSuchElementException` if they held, or there was no set, or there were sets with other "
                + "elements, or with other numbers of them");
        tellsNothing(Edges::empty);
        tellsNothing(Edges::full);
        for (Supplier<Circuitfold> make : List.<Supplier<Circuitfold>>of(Edges::empty, Edges::full,
                GivenEdges::brokenHouse, () -> breakIn(full()))) {
            tellsNothing(() -> after(make.get(), 4, 3));
            tellsNothing(() -> after(make.get(), 0, 0));
            tellsNothing(() -> after(make.get(), 4));
            tellsNothing(() -> after(make.get(), 0));
            tellsNothing(() -> after(make.get(), 4, 3, 12, 16));
            tellsNothing(() -> after(make.get(), 4, 16, 3, 12));
            tellsNothing(() -> after(make.get(), 0, 1));
            tellsNothing(() -> after(make.get(), 4, 3, 12, 1));
            tellsNothing(() -> after(make.get(), 4, 0, 3, 12));
            tellsNothing(() -> after(make.get(), 4, 3, 12, 15));
            tellsNothing(() -> after(make.get(), 4, 3, 12, 1, 16));
        }
    }

    private void tellsNothing(Supplier<Circuitfold> make) {
        for (char what : new char[] {'a', 'b', 'x'}) {
            refused(NONE, make, house -> house.broken(what));
        }
    }

    /** The house, after these were looked at as bases. */
    private static Circuitfold after(Circuitfold house, int size, int... sets) {
        typed(house, sets);
        Due.outcome(() -> house.bases(size));
        house.erase();
        return house;
    }

    private void brokenLast() {
        sentence(9, "Returns what was broken as bases were looked at last.");
        is("3 12 0", told(brokenHouse()));
        is("7 56 0", told(after(brokenHouse(), 6, 7, 56)));
        is("3 12 1", told(after(after(brokenHouse(), 6, 7, 56), 4, 3, 12, 10)));
        is("3 12 0", told(after(after(empty(), 4, 3), 4, 12, 3)));
        Circuitfold house = brokenHouse();
        for (Call call : everyOtherCall()) {
            Due.outcome(() -> call.on(house));
            is("3 12 0", told(house));
            Circuitfold full = breakIn(full(triangle(), fano()));
            Due.outcome(() -> call.on(full));
            is("3 12 0", told(full));
            Circuitfold held = after(brokenHouse(), 2, 1);
            Due.outcome(() -> call.on(held));
            is(NONE.toString(), told(held));
        }
        is(13, house.matroids());
    }

    /** Calls of all methods but bases, of which some are refused; the first ones make a triangle and a plane. */
    private static List<Call> everyOtherCall() {
        return List.of(house -> typed(house, 0, 1, 1, 2, 2, 0, 2, 3).graph(), GivenEdges::withPlane,
                house -> house.type(3), Circuitfold::graph, Circuitfold::erase, house -> house.type(-1),
                house -> house.uniform(2, 4), house -> house.uniform(4, 2), house -> house.meeting(3),
                house -> house.meeting(11), house -> house.columns(2, 1), house -> house.columns(4, 1),
                house -> house.bases(11), house -> house.bases(-1), house -> house.broken('a'),
                house -> house.broken('c'), house -> house.dual(0), house -> house.delete(0, 1),
                house -> house.contract(0, 1), house -> house.sum(0, 0), house -> house.union(0, 0),
                house -> house.truncate(0), house -> house.relax(0, 7), house -> house.extend(0, 3),
                house -> house.size(0), house -> house.rank(0, 3), house -> house.closure(0, 3),
                house -> house.count(0, 'i'), house -> house.setAt(0, 'i', 0), house -> house.circuitWith(0, 11, 2),
                house -> house.component(0, 0), house -> house.areAlike(0, 1), house -> house.image(0, 0, 1),
                house -> house.symmetries(0), house -> house.minorBy(1, 1), house -> house.minorWithout(1, 1),
                house -> house.canBeDrawn(0, 2), house -> house.entry(0, 3, 0, 0),
                house -> typed(house, 1, 2, 3, 4).greedy(0), house -> house.common(0, 0),
                house -> house.commonSet(0, 0), house -> house.commonBound(0, 0), house -> house.cover(0),
                house -> house.coverBound(0), house -> house.packing(0), house -> house.packingBound(0),
                house -> house.coefficient(0, 1, 1), house -> house.value(0, 2, 2), house -> house.other(0, 1),
                Circuitfold::matroids, Circuitfold::binaryShare, Circuitfold::meanBases, Circuitfold::isSound,
                house -> house.size(24), house -> house.cover(-1), house -> house.greedy(0), house -> house.sum(1, 1));
    }

    private static int withPlane(Circuitfold house) {
        fano().in(house);
        return house.matroids();
    }
}
