/** The boundary cases of promises 32 to 39: greedy bases, common independent sets, covers and packings. */
final class BoundEdges extends Edges {

    private static final String OTHER_SIZE = "Throws `UnsupportedOperationException` if they have not as many elements";
    private static final String LOOP = "Throws `UnsupportedOperationException` if it has a loop";
    private static final String RANK_0 = "Throws `UnsupportedOperationException` if its rank is 0";

    BoundEdges(Due due) {
        super(due);
    }

    @Override
    void all() {
        greedyBases();
        rowsThatAreNoWeights();
        commonSets();
        commonSetsOfOtherSizes();
        covers();
        coversOfLoops();
        packings();
        packingsOfNothing();
    }

    // ---- promise 32

    private static int greedy(Maker maker, int... weights) {
        return typed(houseOf(maker), weights).greedy(0);
    }

    private void greedyBases() {
        sentence(32, "Returns the greedy basis for the weights in the row, which stays.");
        is(0, greedy(uniform(0, 0)));
        is(0, greedy(uniform(0, 1), 1023));
        is(1, greedy(uniform(1, 1), 0));
        is(1, greedy(uniform(1, 10), times(10, 0)));
        is(512, greedy(uniform(1, 10), with(times(10, 1022), 9, 1023)));
        is(2, greedy(uniform(1, 10), with(times(10, 0), 1, 1)));
        is(1023, greedy(uniform(10, 10), times(10, 1023)));
        is(992, greedy(uniform(5, 10), 0, 0, 1, 1, 2, 1000, 1001, 1002, 1022, 1023));
        is(31, greedy(uniform(5, 10), 1023, 1022, 1002, 1001, 1000, 2, 1, 1, 0, 0));
        is(0, greedy(uniform(0, 10), times(10, 5)));
        Circuitfold house = typed(houseOf(triangle()), 2, 3, 3, 2);
        is(14, house.greedy(0));
        is(14, house.greedy(0));
        is(1, house.graph());
        is("2: 1 2", shape(house, 1));
        sentence(32, MATROID);
        is(13, typed(placed(24, 0, triangle(), 0, triangle()), 1, 0, 1, 1).greedy(0));
        is(13, typed(placed(24, 23, triangle(), 23, triangle()), 1, 0, 1, 1).greedy(23));
        sentence(32, "Returns the basis.");
        is(11, greedy(triangle(), 7, 7, 7, 7));
        is(14, greedy(triangle(), 6, 7, 7, 0));
        is(13, greedy(triangle(), 7, 6, 7, 0));
        sentence(32, NO_MATROID);
        refusedMatroids(triangle(), Circuitfold::greedy);
        for (int count : new int[] {0, 3, 4, 5, 10, 11, 60}) {
            refused(INDEX, () -> typed(empty(), times(count, 1)), asked -> asked.greedy(0));
            refused(INDEX, () -> typed(houseOf(triangle()), times(count, 1)), asked -> asked.greedy(1));
            refused(INDEX, () -> typed(full(triangle()), times(count, 1)), asked -> asked.greedy(-1));
            refused(INDEX, () -> typed(full(triangle()), times(count, 1)), asked -> asked.greedy(24));
        }
    }

    private void rowsThatAreNoWeights() {
        sentence(32, "Throws `UnsupportedOperationException` if the row has not as many numbers as it has elements");
        for (int size = 0; size <= 10; size++) {
            Maker maker = uniform(size / 2, size);
            is((1 << size / 2) - 1, greedy(maker, times(size, 9)));
            for (int count : new int[] {0, size - 1, size + 1, 2 * size, 60}) {
                if (count >= 0 && count != size) {
                    refused(UNSUPPORTED, () -> typed(houseOf(maker), times(count, 9)), house -> house.greedy(0));
                    refused(UNSUPPORTED, () -> typed(full(maker), times(count, 9)), house -> house.greedy(0));
                }
            }
        }
    }

    // ---- promises 33 to 35

    private static String common(Maker maker, Maker other) {
        Circuitfold house = houseOf(maker, other);
        return house.common(0, 1) + " " + house.commonSet(0, 1) + " " + house.commonBound(0, 1);
    }

    private void commonSets() {
        sentence(33, "Returns how many elements the greatest sets have that are independent in both.");
        is("0 0 0", common(uniform(0, 0), uniform(0, 0)));
        is("0 0 0", common(uniform(1, 1), uniform(0, 1)));
        is("0 0 1", common(uniform(0, 1), uniform(1, 1)));
        is("1 1 0", common(uniform(1, 1), uniform(1, 1)));
        is("10 1023 0", common(uniform(10, 10), uniform(10, 10)));
        is("0 0 0", common(uniform(0, 10), uniform(0, 10)));
        sentence(34, "Returns the first of these sets.");
        is("5 31 0", common(uniform(5, 10), uniform(5, 10)));
        is("1 512 0", common(bases(10, 1, 512), bases(10, 512)));
        is("2 5 0", common(graph(0, 1, 0, 1, 2, 3, 4, 4), graph(0, 1, 2, 3, 2, 3, 0, 1)));
        sentence(35, "Returns the first set whose rank in the first one, and that of the others in the second one, are "
                + "so much together.");
        is("4 15 1023", common(uniform(4, 10), uniform(5, 10)));
        is("4 15 0", common(uniform(5, 10), uniform(4, 10)));
        is("0 0 512", common(bases(10, 511), bases(10, 512)));
        is("0 0 511", common(bases(10, 512), bases(10, 511)));
        sentence(33, "Returns the number of elements.");
        is(1, houseOf(uniform(3, 4), uniform(1, 4)).common(0, 1));
        sentence(34, "Returns the set.");
        is(8, houseOf(bases(4, 8), uniform(1, 4)).commonSet(0, 1));
        sentence(35, "Returns the set.");
        is(7, houseOf(bases(4, 8), bases(4, 7)).commonBound(0, 1));
        Circuitfold house = houseOf(triangle());
        sentence(33, FIRST);
        is(3, house.common(0, 0));
        asksPair(33, triangle(), uniform(2, 4), 2, Circuitfold::common);
        asksPair(34, triangle(), bases(4, 4, 8), 4, Circuitfold::commonSet);
        asksPair(35, bases(4, 4, 8), triangle(), 15, Circuitfold::commonBound);
        for (int promise = 33; promise <= 35; promise++) {
            OfTwo call = commonCall(promise);
            sentence(promise, NO_MATROID_EITHER);
            refusedPairs(triangle(), call);
        }
    }

    private static OfTwo commonCall(int promise) {
        if (promise == 33) {
            return Circuitfold::common;
        }
        return promise == 34 ? Circuitfold::commonSet : Circuitfold::commonBound;
    }

    private void commonSetsOfOtherSizes() {
        for (int promise = 33; promise <= 35; promise++) {
            OfTwo call = commonCall(promise);
            sentence(promise, OTHER_SIZE);
            for (int size = 0; size < 10; size++) {
                Maker maker = uniform(size / 2, size);
                Maker other = uniform(size / 2, size + 1);
                Maker great = uniform(size, 10);
                is(true, call.on(houseOf(maker, maker), 0, 1) instanceof Integer);
                refused(UNSUPPORTED, () -> houseOf(maker, other), house -> call.on(house, 0, 1));
                refused(UNSUPPORTED, () -> houseOf(maker, other), house -> call.on(house, 1, 0));
                refused(UNSUPPORTED, () -> full(maker, great), house -> call.on(house, 0, 1));
                refused(UNSUPPORTED, () -> full(maker, great), house -> call.on(house, 1, 0));
            }
        }
    }

    // ---- promises 36 and 37

    private static int cover(Maker maker) {
        return houseOf(maker).cover(0);
    }

    private static int coverBound(Maker maker) {
        return houseOf(maker).coverBound(0);
    }

    private void covers() {
        sentence(36, "Returns the number of sets, 0 without elements.");
        is(0, cover(uniform(0, 0)));
        is(1, cover(uniform(1, 1)));
        sentence(36, "Returns the cover.");
        is(1, cover(uniform(10, 10)));
        is(2, cover(uniform(9, 10)));
        is(2, cover(uniform(5, 10)));
        is(3, cover(uniform(4, 10)));
        is(10, cover(uniform(1, 10)));
        is(2, cover(nineAndOne()));
        sentence(37, "Returns the first set that makes the cover so great.");
        is(1, coverBound(uniform(1, 1)));
        is(1, coverBound(uniform(10, 10)));
        is(1023, coverBound(uniform(9, 10)));
        is(63, coverBound(uniform(5, 10)));
        is(511, coverBound(uniform(4, 10)));
        is(1023, coverBound(uniform(1, 10)));
        sentence(37, "Returns the set.");
        is(511, coverBound(nineAndOne()));
        is(24, coverBound(graph(0, 1, 1, 2, 2, 3, 4, 5, 4, 5)));
        asks(36, completeGraph(4), 2, Circuitfold::cover);
        asks(37, completeGraph(4), 11, Circuitfold::coverBound);
        sentence(36, NO_MATROID);
        refusedMatroids(triangle(), Circuitfold::cover);
        refusedMatroids(uniform(0, 1), Circuitfold::cover);
        sentence(37, NO_MATROID);
        refusedMatroids(triangle(), Circuitfold::coverBound);
        refusedMatroids(uniform(0, 0), Circuitfold::coverBound);
    }

    private void coversOfLoops() {
        Maker first = graph(0, 0, 0, 1, 1, 2, 2, 3, 3, 4, 4, 5, 5, 6, 6, 7, 7, 8, 8, 9);
        Maker last = graph(0, 1, 1, 2, 2, 3, 3, 4, 4, 5, 5, 6, 6, 7, 7, 8, 8, 9, 9, 9);
        Maker middle = graph(0, 1, 2, 2, 2, 3);
        for (Maker maker : new Maker[] {uniform(0, 1), uniform(0, 10), first, last, middle}) {
            sentence(36, LOOP);
            refused(UNSUPPORTED, () -> houseOf(maker), house -> house.cover(0));
            refused(UNSUPPORTED, () -> full(maker), house -> house.cover(0));
            sentence(37, LOOP);
            refused(UNSUPPORTED, () -> houseOf(maker), house -> house.coverBound(0));
            refused(UNSUPPORTED, () -> full(maker), house -> house.coverBound(0));
        }
        sentence(37, "Throws `NoSuchElementException` if it has no elements");
        refused(NONE, () -> houseOf(uniform(0, 0)), house -> house.coverBound(0));
        refused(NONE, Edges::full, house -> house.coverBound(23));
        is(1, coverBound(uniform(1, 1)));
    }

    // ---- promises 38 and 39

    private static int packing(Maker maker) {
        return houseOf(maker).packing(0);
    }

    private static int packingBound(Maker maker) {
        return houseOf(maker).packingBound(0);
    }

    private void packings() {
        sentence(38, "Returns the packing.");
        is(1, packing(uniform(1, 1)));
        is(10, packing(uniform(1, 10)));
        is(1, packing(uniform(10, 10)));
        is(5, packing(uniform(2, 10)));
        is(2, packing(uniform(5, 10)));
        is(1, packing(uniform(6, 10)));
        sentence(38, "Returns the number of bases.");
        is(1, packing(nineAndOne()));
        is(1, packing(bases(10, 512)));
        sentence(39, "Returns the first set that makes the packing so small.");
        is(0, packingBound(uniform(1, 1)));
        is(0, packingBound(uniform(1, 10)));
        is(0, packingBound(uniform(10, 10)));
        is(0, packingBound(uniform(4, 10)));
        is(0, packingBound(nineAndOne()));
        sentence(39, "Returns the set.");
        is(511, packingBound(graph(0, 1, 0, 1, 0, 1, 0, 1, 0, 1, 0, 1, 0, 1, 0, 1, 0, 1, 2, 3)));
        is(0, packingBound(graph(0, 1, 2, 3, 2, 3)));
        is(30, packingBound(graph(0, 1, 2, 3, 2, 3, 2, 3, 2, 3)));
        asks(38, completeGraph(4), 2, Circuitfold::packing);
        asks(39, graph(0, 1, 2, 3, 2, 3, 2, 3), 14, Circuitfold::packingBound);
        sentence(38, NO_MATROID);
        refusedMatroids(triangle(), Circuitfold::packing);
        refusedMatroids(uniform(0, 1), Circuitfold::packing);
        sentence(39, NO_MATROID);
        refusedMatroids(triangle(), Circuitfold::packingBound);
        refusedMatroids(uniform(0, 1), Circuitfold::packingBound);
    }

    private void packingsOfNothing() {
        for (int size : new int[] {0, 1, 5, 10}) {
            sentence(38, RANK_0);
            refused(UNSUPPORTED, () -> houseOf(uniform(0, size)), house -> house.packing(0));
            refused(UNSUPPORTED, () -> full(uniform(0, size)), house -> house.packing(0));
            sentence(39, RANK_0);
            refused(UNSUPPORTED, () -> houseOf(uniform(0, size)), house -> house.packingBound(0));
            refused(UNSUPPORTED, () -> full(uniform(0, size)), house -> house.packingBound(0));
        }
        sentence(38, RANK_0);
        is(1, packing(graph(3, 3, 3, 3, 0, 1)));
        sentence(39, RANK_0);
        is(3, packingBound(graph(3, 3, 3, 3, 0, 1)));
    }
}
