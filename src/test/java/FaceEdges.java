/** The boundary cases of promises 18 to 24: the faces of a matroid. */
final class FaceEdges extends Edges {

    private static final String NO_SORT = "Throws `IllegalArgumentException` if there is no such sort";
    private static final char[] SORTS = {'i', 'b', 'c', 'f', 'h'};
    private static final char[] NO_SORTS = {'a', 'd', 'e', 'g', 'j', 'x', 'I', 'B', 'C', 'F', 'H', ' ', 0, 'i' + 256,
        'b' + 32768, 65535};

    FaceEdges(Due due) {
        super(due);
    }

    @Override
    void all() {
        sizes();
        ranks();
        closures();
        counts();
        sortsThatAreNotThere();
        setsOfASort();
        setsBehindTheLast();
        circuits();
        setsThatAreNoBasis();
        elementsInTheBasis();
        components();
    }

    // ---- promises 18 to 20

    private void sizes() {
        sentence(18, "Returns the number of elements.");
        for (int size = 0; size <= 10; size++) {
            for (int rank = 0; rank <= size; rank++) {
                is(size, houseOf(uniform(rank, size)).size(0));
            }
        }
        asks(18, triangle(), 4, Circuitfold::size);
        sentence(18, NO_MATROID);
        refusedMatroids(triangle(), Circuitfold::size);
    }

    private void ranks() {
        sentence(19, "Returns the rank of a set.");
        is(0, houseOf(uniform(0, 0)).rank(0, 0));
        is(0, houseOf(uniform(0, 10)).rank(0, 1023));
        is(10, houseOf(uniform(10, 10)).rank(0, 1023));
        asks(19, triangle(), 2, (house, matroid) -> house.rank(matroid, 7));
        sentence(19, "- `set`: the set");
        sentence(19, "Returns the rank.");
        for (int size = 0; size <= 10; size++) {
            Circuitfold house = houseOf(uniform(size / 2, size));
            is(0, house.rank(0, 0));
            is(size / 2, house.rank(0, (1 << size) - 1));
        }
        sentence(19, "- `set`: the set");
        is(8, houseOf(nineAndOne()).rank(0, 511));
        is(1, houseOf(nineAndOne()).rank(0, 512));
        is(9, houseOf(nineAndOne()).rank(0, 1023));
        sentence(19, NO_MATROID);
        for (int set : STRANGE_SETS) {
            refusedMatroids(triangle(), (house, matroid) -> house.rank(matroid, set));
        }
        sentence(19, OTHER_ELEMENTS);
        for (int size : new int[] {0, 1, 5, 9, 10}) {
            refusedSets(() -> houseOf(uniform(size / 2, size)), size, (house, set) -> house.rank(0, set));
            refusedSets(() -> full(uniform(size / 2, size)), size, (house, set) -> house.rank(0, set));
        }
    }

    private void closures() {
        sentence(20, "Returns the closure of a set.");
        is(0, houseOf(uniform(0, 0)).closure(0, 0));
        is(1023, houseOf(uniform(0, 10)).closure(0, 0));
        is(0, houseOf(uniform(10, 10)).closure(0, 0));
        is(1023, houseOf(uniform(10, 10)).closure(0, 1023));
        is(1023, houseOf(uniform(1, 10)).closure(0, 512));
        asks(20, triangle(), 7, (house, matroid) -> house.closure(matroid, 5));
        sentence(20, "- `set`: the set");
        is(511, houseOf(nineAndOne()).closure(0, 510));
        is(512, houseOf(nineAndOne()).closure(0, 512));
        is(1023, houseOf(nineAndOne()).closure(0, 1022));
        sentence(20, "Returns the closure.");
        for (int size = 0; size <= 10; size++) {
            Circuitfold house = houseOf(uniform((size + 1) / 2, size));
            is(0, house.closure(0, 0));
            is((1 << size) - 1, house.closure(0, (1 << size) - 1));
        }
        sentence(20, NO_MATROID);
        for (int set : STRANGE_SETS) {
            refusedMatroids(triangle(), (house, matroid) -> house.closure(matroid, set));
        }
        sentence(20, OTHER_ELEMENTS);
        for (int size : new int[] {0, 1, 5, 9, 10}) {
            refusedSets(() -> houseOf(uniform(size / 2, size)), size, (house, set) -> house.closure(0, set));
            refusedSets(() -> full(uniform(size / 2, size)), size, (house, set) -> house.closure(0, set));
        }
    }

    // ---- promises 21 and 22

    private static String counts(Maker maker) {
        Circuitfold house = houseOf(maker);
        StringBuilder text = new StringBuilder();
        for (char sort : SORTS) {
            text.append(house.count(0, sort)).append(' ');
        }
        return text.toString().trim();
    }

    private void counts() {
        sentence(21, "Returns how many sets of a sort a matroid has.");
        is("1 1 0 1 0", counts(uniform(0, 0)));
        is("1 1 1 1 0", counts(uniform(0, 1)));
        is("2 1 0 2 1", counts(uniform(1, 1)));
        is("1 1 10 1 0", counts(uniform(0, 10)));
        is("1024 1 0 1024 10", counts(uniform(10, 10)));
        is("11 10 45 2 1", counts(uniform(1, 10)));
        is("638 252 210 387 210", counts(uniform(5, 10)));
        asks(21, triangle(), 10, (house, matroid) -> house.count(matroid, 'f'));
        sentence(21, "- `sort`: 'i' independent ones, 'b' bases, 'c' circuits, 'f' flats, 'h' hyperplanes");
        is("14 3 1 10 4", counts(triangle()));
        sentence(21, "Returns the number of sets.");
        is("38 16 7 15 7", counts(completeGraph(4)));
        sentence(21, NO_MATROID);
        refusedMatroids(triangle(), (house, matroid) -> house.count(matroid, 'i'));
        for (char sort : NO_SORTS) {
            refusedMatroids(triangle(), (house, matroid) -> house.count(matroid, sort));
        }
    }

    private void sortsThatAreNotThere() {
        for (char sort : NO_SORTS) {
            sentence(21, NO_SORT);
            refused(ARGUMENT, () -> houseOf(triangle()), house -> house.count(0, sort));
            refused(ARGUMENT, () -> houseOf(uniform(0, 0)), house -> house.count(0, sort));
            refused(ARGUMENT, () -> full(triangle()), house -> house.count(23, sort));
            sentence(22, NO_SORT);
            for (int index : new int[] {0, 1, -1, 99, LEAST, GREATEST}) {
                refused(ARGUMENT, () -> houseOf(triangle()), house -> house.setAt(0, sort, index));
                refused(ARGUMENT, () -> houseOf(uniform(0, 0)), house -> house.setAt(0, sort, index));
            }
        }
    }

    private void setsOfASort() {
        sentence(22, "Returns a set of a sort, in their order.");
        is("0", list(houseOf(uniform(0, 0)), 0, 'i'));
        is("0", list(houseOf(uniform(0, 0)), 0, 'f'));
        is("1 2 4 8 16 32 64 128 256 512", list(houseOf(uniform(0, 10)), 0, 'c'));
        is("1023", list(houseOf(uniform(0, 10)), 0, 'f'));
        is("511 767 895 959 991 1007 1015 1019 1021 1022", list(houseOf(uniform(10, 10)), 0, 'h'));
        asks(22, triangle(), 14, (house, matroid) -> house.setAt(matroid, 'b', 2));
        sentence(22, "- `sort`: the sort, as above");
        is("0 1 2 3 4 5 6 8 9 10 11 12 13 14", list(houseOf(triangle()), 0, 'i'));
        is("11 13 14", list(houseOf(triangle()), 0, 'b'));
        is("7", list(houseOf(triangle()), 0, 'c'));
        is("0 1 2 4 7 8 9 10 12 15", list(houseOf(triangle()), 0, 'f'));
        is("7 9 10 12", list(houseOf(triangle()), 0, 'h'));
        sentence(22, "- `index`: the index, from 0");
        is(0, houseOf(uniform(10, 10)).setAt(0, 'i', 0));
        sentence(22, "Returns the set.");
        is(1023, houseOf(uniform(10, 10)).setAt(0, 'i', 1023));
        is(512, houseOf(uniform(10, 10)).setAt(0, 'i', 512));
        sentence(22, NO_MATROID);
        for (int index : new int[] {0, -1, 14, 1024, LEAST, GREATEST}) {
            refusedMatroids(triangle(), (house, matroid) -> house.setAt(matroid, 'i', index));
            for (char sort : NO_SORTS) {
                refusedMatroids(triangle(), (house, matroid) -> house.setAt(matroid, sort, index));
            }
        }
    }

    private void setsBehindTheLast() {
        sentence(22, "Throws `NoSuchElementException` if there is no such set");
        for (Maker maker : new Maker[] {uniform(0, 0), uniform(0, 1), triangle(), uniform(10, 10), uniform(5, 10)}) {
            for (char sort : SORTS) {
                int count = houseOf(maker).count(0, sort);
                for (int index : new int[] {-1, count, count + 1, 1024, -1024, LEAST, LEAST + 1, GREATEST}) {
                    refused(NONE, () -> houseOf(maker), house -> house.setAt(0, sort, index));
                }
                if (count > 0) {
                    is(true, houseOf(maker).setAt(0, sort, count - 1) >= 0);
                    is(true, houseOf(maker).setAt(0, sort, 0) <= houseOf(maker).setAt(0, sort, count - 1));
                }
            }
        }
        refused(NONE, () -> full(triangle()), house -> house.setAt(0, 'b', 3));
        refused(NONE, Edges::full, house -> house.setAt(23, 'c', 0));
    }

    // ---- promise 23

    private void circuits() {
        sentence(23, "Returns the circuit that an element makes with a basis.");
        is(1, houseOf(uniform(0, 1)).circuitWith(0, 0, 0));
        is(512, houseOf(uniform(0, 10)).circuitWith(0, 0, 9));
        is(1023, houseOf(uniform(9, 10)).circuitWith(0, 511, 9));
        is(1023, houseOf(uniform(9, 10)).circuitWith(0, 1022, 0));
        is(513, houseOf(uniform(1, 10)).circuitWith(0, 1, 9));
        asks(23, triangle(), 7, (house, matroid) -> house.circuitWith(matroid, 11, 2));
        sentence(23, "- `basis`: the basis");
        is(51, houseOf(completeGraph(4)).circuitWith(0, 49, 1));
        is(11, houseOf(completeGraph(4)).circuitWith(0, 11 - 2 + 32, 1));
        sentence(23, "- `element`: an element that is not in it");
        is(7, houseOf(triangle()).circuitWith(0, 14, 0));
        is(7, houseOf(triangle()).circuitWith(0, 13, 1));
        sentence(23, "Returns the circuit.");
        is(11, houseOf(completeGraph(4)).circuitWith(0, 7, 3));
        is(21, houseOf(completeGraph(4)).circuitWith(0, 7, 4));
        is(38, houseOf(completeGraph(4)).circuitWith(0, 7, 5));
        sentence(23, NO_MATROID_OR_ELEMENT);
        refusedMatroids(triangle(), (house, matroid) -> house.circuitWith(matroid, 11, 2));
        refusedMatroids(triangle(), (house, matroid) -> house.circuitWith(matroid, 11, 0));
        for (int set : STRANGE_SETS) {
            refusedMatroids(triangle(), (house, matroid) -> house.circuitWith(matroid, set, 2));
            refusedMatroids(triangle(), (house, matroid) -> house.circuitWith(matroid, set, 4));
        }
        for (Maker maker : new Maker[] {uniform(0, 0), uniform(1, 1), triangle(), uniform(9, 10), uniform(10, 10)}) {
            int basis = houseOf(maker).setAt(0, 'b', 0);
            int size = houseOf(maker).size(0);
            for (int set : new int[] {basis, 0, -1, 1024}) {
                refusedElements(() -> houseOf(maker), size, (house, element) -> house.circuitWith(0, set, element));
            }
            refusedElements(() -> full(maker), size, (house, element) -> house.circuitWith(0, basis, element));
        }
    }

    private void setsThatAreNoBasis() {
        sentence(23, "Throws `UnsupportedOperationException` if the set is no basis");
        int[] no = {-1, 0, 1, 3, 7, 15, 9, 10, 16, 27, 16 + 11, 1024 + 11, 65536 + 11, LEAST, LEAST + 11, GREATEST};
        for (int basis : no) {
            for (int element = 0; element < 4; element++) {
                refusedBasis(triangle(), basis, element);
            }
        }
        refusedBasis(uniform(0, 1), 1, 0);
        refusedBasis(uniform(1, 1), 0, 0);
        refusedBasis(uniform(0, 10), 1, 9);
        refusedBasis(uniform(0, 10), 1024, 9);
        refusedBasis(uniform(9, 10), 1023, 9);
        refusedBasis(uniform(9, 10), 255, 9);
        refusedBasis(uniform(10, 10), 1022, 0);
    }

    private void refusedBasis(Maker maker, int basis, int element) {
        refused(UNSUPPORTED, () -> houseOf(maker), house -> house.circuitWith(0, basis, element));
        refused(UNSUPPORTED, () -> full(maker), house -> house.circuitWith(0, basis, element));
    }

    private void elementsInTheBasis() {
        sentence(23, "Throws `NoSuchElementException` if the element is in it");
        refused(NONE, () -> houseOf(uniform(1, 1)), house -> house.circuitWith(0, 1, 0));
        for (int element : new int[] {0, 1, 3}) {
            refused(NONE, () -> houseOf(triangle()), house -> house.circuitWith(0, 11, element));
            refused(NONE, () -> full(triangle()), house -> house.circuitWith(0, 11, element));
        }
        for (int element = 0; element < 10; element++) {
            int inside = element;
            refused(NONE, () -> houseOf(uniform(10, 10)), house -> house.circuitWith(0, 1023, inside));
        }
        refused(NONE, () -> houseOf(uniform(1, 10)), house -> house.circuitWith(0, 512, 9));
    }

    // ---- promise 24

    private static String components(Maker maker) {
        Circuitfold house = houseOf(maker);
        StringBuilder text = new StringBuilder();
        for (int element = 0; element < house.size(0); element++) {
            text.append(house.component(0, element));
        }
        return text.toString();
    }

    private void components() {
        sentence(24, "Returns the lowest element with which an element is connected: itself, or one with which it is "
                + "in a circuit.");
        is("", components(uniform(0, 0)));
        is("0", components(uniform(0, 1)));
        is("0", components(uniform(1, 1)));
        is("0123456789", components(uniform(0, 10)));
        is("0123456789", components(uniform(10, 10)));
        is("0000000000", components(uniform(1, 10)));
        is("0000000000", components(uniform(9, 10)));
        is("0000000009", components(nineAndOne()));
        is("0123456780", components(graph(0, 1, 5, 5, 1, 2, 2, 3, 3, 4, 6, 6, 7, 7, 8, 8, 9, 9, 0, 1)));
        asks(24, triangle(), 0, (house, matroid) -> house.component(matroid, 2));
        sentence(24, "- `element`: the element");
        is("0003", components(triangle()));
        is("0023436", components(graph(0, 1, 0, 1, 2, 2, 3, 4, 5, 5, 4, 3, 6, 7)));
        sentence(24, "Returns the element.");
        is("000000", components(completeGraph(4)));
        sentence(24, NO_MATROID_OR_ELEMENT);
        refusedMatroids(triangle(), (house, matroid) -> house.component(matroid, 0));
        refusedMatroids(triangle(), (house, matroid) -> house.component(matroid, 4));
        for (int size : new int[] {0, 1, 4, 9, 10}) {
            Maker maker = uniform(size / 2, size);
            refusedElements(() -> houseOf(maker), size, (house, element) -> house.component(0, element));
            refusedElements(() -> full(maker), size, (house, element) -> house.component(0, element));
        }
    }
}
