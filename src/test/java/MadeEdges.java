/** The boundary cases of promises 10 to 17: matroids that are made of others. */
final class MadeEdges extends Edges {

    private static final String ELEMENT = "- `element`: the element";
    private static final String SET = "- `set`: the set";

    MadeEdges(Due due) {
        super(due);
    }

    @Override
    void all() {
        duals();
        deleted();
        contracted();
        elementsThatAreNotThere();
        sums();
        sumsThatAreTooGreat();
        unions();
        unionsOfOtherSizes();
        truncations();
        truncationsOfNothing();
        relaxations();
        setsThatAreNotRelaxed();
        extensions();
        extensionsThatAreRefused();
    }

    /** What the call makes of two matroids that are alone. */
    private static String made(Maker maker, Maker other, OfTwo call) {
        Circuitfold house = houseOf(maker, other);
        call.on(house, 0, 1);
        return shape(house, 2);
    }

    // ---- promise 10

    private void duals() {
        sentence(10, "Makes the dual of a matroid.");
        is("0: 0", made(uniform(0, 0), house -> house.dual(0)));
        is("1: 1", made(uniform(0, 1), house -> house.dual(0)));
        is("1: 0", made(uniform(1, 1), house -> house.dual(0)));
        is("10: 1023", made(uniform(0, 10), house -> house.dual(0)));
        is("10: 0", made(uniform(10, 10), house -> house.dual(0)));
        is("10: 1 2 4 8 16 32 64 128 256 512", made(uniform(9, 10), house -> house.dual(0)));
        makes(10, triangle(), "4: 1 2 4", Circuitfold::dual);
        sentence(10, NO_MATROID);
        refusedMatroids(triangle(), Circuitfold::dual);
    }

    // ---- promises 11 and 12

    private void deleted() {
        sentence(11, "Deletes an element of a matroid.");
        is("0: 0", made(uniform(0, 1), house -> house.delete(0, 0)));
        is("0: 0", made(uniform(1, 1), house -> house.delete(0, 0)));
        is(shape(uniform(5, 9)), made(uniform(5, 10), house -> house.delete(0, 0)));
        is(shape(uniform(5, 9)), made(uniform(5, 10), house -> house.delete(0, 9)));
        sentence(11, ELEMENT);
        is(shape(uniform(8, 9)), made(nineAndOne(), house -> house.delete(0, 9)));
        is("9: 511", made(nineAndOne(), house -> house.delete(0, 8)));
        is("9: 511", made(nineAndOne(), house -> house.delete(0, 0)));
        is("3: 7", made(triangle(), house -> house.delete(0, 0)));
        is("3: 3 5 6", made(triangle(), house -> house.delete(0, 3)));
        is("3: 3 6", made(graph(0, 1, 1, 2, 2, 3, 1, 2), house -> house.delete(0, 0)));
        is("3: 3 5", made(graph(0, 1, 1, 2, 2, 3, 1, 2), house -> house.delete(0, 2)));
        makes(11, triangle(), "3: 7", (house, matroid) -> house.delete(matroid, 2));
    }

    private void contracted() {
        sentence(12, "Contracts an element of a matroid.");
        is("0: 0", made(uniform(0, 1), house -> house.contract(0, 0)));
        is("0: 0", made(uniform(1, 1), house -> house.contract(0, 0)));
        is("9: 0", made(uniform(0, 10), house -> house.contract(0, 9)));
        is("9: 511", made(uniform(10, 10), house -> house.contract(0, 0)));
        is(shape(uniform(4, 9)), made(uniform(5, 10), house -> house.contract(0, 0)));
        is(shape(uniform(4, 9)), made(uniform(5, 10), house -> house.contract(0, 9)));
        sentence(12, ELEMENT);
        is("3: 5 6", made(triangle(), house -> house.contract(0, 0)));
        is("3: 5 6", made(triangle(), house -> house.contract(0, 2)));
        is("3: 3 5 6", made(triangle(), house -> house.contract(0, 3)));
        is(shape(uniform(8, 9)), made(nineAndOne(), house -> house.contract(0, 9)));
        makes(12, triangle(), "3: 5 6", (house, matroid) -> house.contract(matroid, 1));
    }

    private void elementsThatAreNotThere() {
        sentence(11, NO_MATROID_OR_ELEMENT);
        refusedMatroids(triangle(), (house, matroid) -> house.delete(matroid, 0));
        refusedMatroids(triangle(), (house, matroid) -> house.delete(matroid, 4));
        sentence(12, NO_MATROID_OR_ELEMENT);
        refusedMatroids(triangle(), (house, matroid) -> house.contract(matroid, 0));
        refusedMatroids(triangle(), (house, matroid) -> house.contract(matroid, 4));
        for (int size : new int[] {0, 1, 4, 9, 10}) {
            Maker maker = uniform(size / 2, size);
            sentence(11, NO_MATROID_OR_ELEMENT);
            refusedElements(() -> houseOf(maker), size, (house, element) -> house.delete(0, element));
            refusedElements(() -> full(maker), size, (house, element) -> house.delete(0, element));
            sentence(12, NO_MATROID_OR_ELEMENT);
            refusedElements(() -> houseOf(maker), size, (house, element) -> house.contract(0, element));
            refusedElements(() -> full(maker), size, (house, element) -> house.contract(0, element));
        }
    }

    // ---- promise 13

    private void sums() {
        sentence(13, "Makes a sum.");
        is("0: 0", made(uniform(0, 0), uniform(0, 0), Circuitfold::sum));
        is("10: 1 2 4 8 16 32 64 128 256 512", made(uniform(1, 10), uniform(0, 0), Circuitfold::sum));
        is("10: 1 2 4 8 16 32 64 128 256 512", made(uniform(0, 0), uniform(1, 10), Circuitfold::sum));
        is("10: 512", made(uniform(0, 9), uniform(1, 1), Circuitfold::sum));
        is("10: 1", made(uniform(1, 1), uniform(0, 9), Circuitfold::sum));
        is("10: 33 34 36 40 48 65 66 68 72 80 129 130 132 136 144 257 258 260 264 272 513 514 516 520 528",
                made(uniform(1, 5), uniform(1, 5), Circuitfold::sum));
        Circuitfold house = houseOf(uniform(1, 2));
        is(1, house.sum(0, 0));
        is("4: 5 6 9 10", shape(house, 1));
        makesOfPair(13, uniform(1, 2), triangle(), "6: 45 46 53 54 57 58", Circuitfold::sum);
        sentence(13, NO_MATROID_EITHER);
        refusedPairs(uniform(1, 10), Circuitfold::sum);
        refusedPairs(uniform(1, 1), Circuitfold::sum);
    }

    private void sumsThatAreTooGreat() {
        sentence(13, "Throws `UnsupportedOperationException` if it would have more than 10 elements");
        for (int size = 0; size <= 10; size++) {
            Maker maker = uniform(size / 2, size);
            Maker fits = uniform(0, 10 - size);
            Circuitfold house = houseOf(maker, fits);
            is(2, house.sum(0, 1));
            is(3, house.sum(1, 0));
            is(10, house.size(2));
            is(10, house.size(3));
            if (size > 0) {
                Maker tooGreat = uniform(1, 11 - size);
                refused(UNSUPPORTED, () -> houseOf(maker, tooGreat), asked -> asked.sum(0, 1));
                refused(UNSUPPORTED, () -> houseOf(maker, tooGreat), asked -> asked.sum(1, 0));
                refused(UNSUPPORTED, () -> full(maker, tooGreat), asked -> asked.sum(0, 1));
            }
        }
        refused(UNSUPPORTED, () -> houseOf(uniform(3, 6)), house -> house.sum(0, 0));
        refused(UNSUPPORTED, () -> full(uniform(10, 10)), house -> house.sum(0, 0));
    }

    // ---- promise 14

    private void unions() {
        sentence(14, "Makes a union.");
        is("0: 0", made(uniform(0, 0), uniform(0, 0), Circuitfold::union));
        is("1: 0", made(uniform(0, 1), uniform(0, 1), Circuitfold::union));
        is("1: 1", made(uniform(0, 1), uniform(1, 1), Circuitfold::union));
        is("1: 1", made(uniform(1, 1), uniform(0, 1), Circuitfold::union));
        is("10: 1023", made(uniform(5, 10), uniform(5, 10), Circuitfold::union));
        is(shape(uniform(9, 10)), made(uniform(4, 10), uniform(5, 10), Circuitfold::union));
        is("10: 1023", made(uniform(10, 10), uniform(10, 10), Circuitfold::union));
        is("10: 0", made(uniform(0, 10), uniform(0, 10), Circuitfold::union));
        Circuitfold house = houseOf(uniform(1, 3));
        is(1, house.union(0, 0));
        is("3: 3 5 6", shape(house, 1));
        makesOfPair(14, bases(4, 1, 2), bases(4, 1, 8), "4: 3 9 10", Circuitfold::union);
        sentence(14, NO_MATROID_EITHER);
        refusedPairs(uniform(1, 2), Circuitfold::union);
    }

    private void unionsOfOtherSizes() {
        sentence(14, "Throws `UnsupportedOperationException` if they have not as many elements");
        for (int size = 0; size <= 10; size++) {
            Maker maker = uniform(size / 2, size);
            is(2, houseOf(maker, uniform(0, size)).union(0, 1));
            for (int other : new int[] {0, size - 1, size + 1, 10}) {
                if (other >= 0 && other <= 10 && other != size) {
                    Maker unlike = uniform(0, other);
                    refused(UNSUPPORTED, () -> houseOf(maker, unlike), house -> house.union(0, 1));
                    refused(UNSUPPORTED, () -> houseOf(maker, unlike), house -> house.union(1, 0));
                    refused(UNSUPPORTED, () -> full(maker, unlike), house -> house.union(0, 1));
                }
            }
        }
    }

    // ---- promise 15

    private void truncations() {
        sentence(15, "Truncates a matroid.");
        is("1: 0", made(uniform(1, 1), house -> house.truncate(0)));
        is(shape(uniform(9, 10)), made(uniform(10, 10), house -> house.truncate(0)));
        is("10: 0", made(uniform(1, 10), house -> house.truncate(0)));
        makes(15, triangle(), "4: 3 5 6 9 10 12", Circuitfold::truncate);
        sentence(15, NO_MATROID);
        refusedMatroids(triangle(), Circuitfold::truncate);
        refusedMatroids(uniform(0, 2), Circuitfold::truncate);
    }

    private void truncationsOfNothing() {
        sentence(15, "Throws `UnsupportedOperationException` if its rank is 0");
        for (int size : new int[] {0, 1, 5, 10}) {
            refused(UNSUPPORTED, () -> houseOf(uniform(0, size)), house -> house.truncate(0));
            refused(UNSUPPORTED, () -> full(uniform(0, size)), house -> house.truncate(0));
        }
        for (int size : new int[] {1, 5, 10}) {
            Circuitfold house = houseOf(uniform(1, size));
            is(1, house.truncate(0));
            is(size + ": 0", shape(house, 1));
            is(UNSUPPORTED, Due.outcome(() -> house.truncate(1)));
        }
    }

    // ---- promise 16

    private void relaxations() {
        sentence(16, "Relaxes a matroid.");
        is("2: 1 2", made(graph(0, 0, 0, 1), house -> house.relax(0, 1)));
        is("2: 1 2", made(graph(0, 1, 0, 0), house -> house.relax(0, 2)));
        is(shape(uniform(9, 10)), made(nineAndOne(), house -> house.relax(0, 511)));
        is("3: 3 5 6", made(graph(0, 1, 0, 1, 1, 2), house -> house.relax(0, 3)));
        sentence(16, SET);
        is("3: 3 5 6", made(graph(1, 2, 0, 1, 0, 1), house -> house.relax(0, 6)));
        is(shape(uniform(1, 10)), made(graph(0, 9, 0, 9, 0, 9, 0, 9, 0, 9, 0, 9, 0, 9, 0, 9, 0, 9, 3, 3),
                house -> house.relax(0, 512)));
        makes(16, triangle(), "4: 7 11 13 14", (house, matroid) -> house.relax(matroid, 7));
        sentence(16, NO_MATROID);
        for (int set : STRANGE_SETS) {
            refusedMatroids(triangle(), (house, matroid) -> house.relax(matroid, set));
        }
    }

    private void setsThatAreNotRelaxed() {
        sentence(16, OTHER_ELEMENTS);
        for (Maker maker : new Maker[] {uniform(0, 0), triangle(), nineAndOne()}) {
            int size = houseOf(maker).size(0);
            refusedSets(() -> houseOf(maker), size, (house, set) -> house.relax(0, set));
            refusedSets(() -> full(maker), size, (house, set) -> house.relax(0, set));
        }
        refused(ARGUMENT, () -> houseOf(triangle()), house -> house.relax(0, 16 + 7));
        sentence(16, "Throws `UnsupportedOperationException` if the set is not a circuit and a hyperplane");
        for (int set = 0; set < 16; set++) {
            if (set != 7) {
                refusedRelaxing(triangle(), set);
            }
        }
        // A circuit, but no hyperplane; a hyperplane, but no circuit; the empty and the full set.
        refusedRelaxing(completeGraph(4), 51);
        refusedRelaxing(completeGraph(4), 33);
        refusedRelaxing(graph(0, 1, 0, 1, 0, 1, 1, 2), 3);
        refusedRelaxing(graph(0, 1, 0, 1, 0, 1, 1, 2), 7);
        refusedRelaxing(uniform(2, 3), 7);
        refusedRelaxing(uniform(2, 3), 4);
        refusedRelaxing(uniform(0, 0), 0);
        refusedRelaxing(uniform(0, 1), 1);
        refusedRelaxing(uniform(0, 1), 0);
        refusedRelaxing(uniform(1, 1), 0);
        refusedRelaxing(uniform(9, 10), 1023);
        refusedRelaxing(nineAndOne(), 510);
        refusedRelaxing(nineAndOne(), 1023);
    }

    private void refusedRelaxing(Maker maker, int set) {
        refused(UNSUPPORTED, () -> houseOf(maker), house -> house.relax(0, set));
        refused(UNSUPPORTED, () -> full(maker), house -> house.relax(0, set));
    }

    // ---- promise 17

    private void extensions() {
        sentence(17, "Extends a matroid by a set; the new element is the last one.");
        is("1: 0", made(uniform(0, 0), house -> house.extend(0, 0)));
        is("2: 0", made(uniform(0, 1), house -> house.extend(0, 0)));
        is("2: 0", made(uniform(0, 1), house -> house.extend(0, 1)));
        is("2: 1", made(uniform(1, 1), house -> house.extend(0, 0)));
        is("2: 1 2", made(uniform(1, 1), house -> house.extend(0, 1)));
        is(shape(uniform(9, 10)), made(uniform(9, 9), house -> house.extend(0, 511)));
        is("10: 511", made(uniform(9, 9), house -> house.extend(0, 0)));
        is("10: 511 767", made(uniform(9, 9), house -> house.extend(0, 256)));
        sentence(17, SET);
        is("5: 11 13 14", made(triangle(), house -> house.extend(0, 0)));
        is("5: 11 13 14 25 26", made(triangle(), house -> house.extend(0, 4)));
        is("5: 11 13 14 19 21 22", made(triangle(), house -> house.extend(0, 8)));
        is("5: 11 13 14 25 26 28", made(triangle(), house -> house.extend(0, 7)));
        is(made(triangle(), house -> house.extend(0, 7)), made(triangle(), house -> house.extend(0, 3)));
        is("5: 11 13 14 19 21 22 25 26 28", made(triangle(), house -> house.extend(0, 15)));
        makes(17, triangle(), "5: 11 13 14 19 21 22", (house, matroid) -> house.extend(matroid, 8));
        sentence(17, NO_MATROID);
        for (int set : STRANGE_SETS) {
            refusedMatroids(triangle(), (house, matroid) -> house.extend(matroid, set));
            refusedMatroids(uniform(1, 10), (house, matroid) -> house.extend(matroid, set));
        }
    }

    private void extensionsThatAreRefused() {
        sentence(17, OTHER_ELEMENTS);
        for (int size : new int[] {0, 1, 4, 9, 10}) {
            Maker maker = uniform(size / 2, size);
            refusedSets(() -> houseOf(maker), size, (house, set) -> house.extend(0, set));
            refusedSets(() -> full(maker), size, (house, set) -> house.extend(0, set));
        }
        sentence(17, "Throws `UnsupportedOperationException` if it has 10 elements");
        for (int set : new int[] {0, 1, 512, 1023}) {
            for (int rank : new int[] {0, 1, 5, 10}) {
                refused(UNSUPPORTED, () -> houseOf(uniform(rank, 10)), house -> house.extend(0, set));
                refused(UNSUPPORTED, () -> full(uniform(rank, 10)), house -> house.extend(0, set));
            }
        }
        for (int rank = 0; rank <= 9; rank++) {
            Circuitfold house = houseOf(uniform(rank, 9));
            is(1, house.extend(0, 511));
            is(10, house.size(1));
            is(UNSUPPORTED, Due.outcome(() -> house.extend(1, 0)));
        }
    }
}
