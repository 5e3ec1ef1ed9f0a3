/** The boundary cases of promises 25 to 31: isomorphisms, minors and drawings. */
final class LikeEdges extends Edges {

    private static final String MINOR = "- `minor`: the number of the one that is looked for";
    private static final String NO_MINOR = "Throws `NoSuchElementException` if it is none";
    private static final String FIELD = "- `field`: the field, 2 or 3";
    private static final String NO_FIELD = "Throws `IllegalArgumentException` if there is no such field";
    private static final int[] NO_FIELDS = {-3, -2, -1, 0, 1, 4, 5, 6, 7, 8, 9, LEAST, GREATEST};

    LikeEdges(Due due) {
        super(due);
    }

    @Override
    void all() {
        alike();
        images();
        imagesThatAreNotThere();
        symmetries();
        minors();
        minorsThatAreNotThere();
        drawable();
        fieldsThatAreNotThere();
        entries();
        entriesThatAreNotThere();
    }

    /** An edge 0 beside a triangle of 1, 2 and 3. */
    private static Maker triangleBehind() {
        return graph(0, 1, 3, 4, 4, 5, 5, 3);
    }

    private static boolean areAlike(Maker maker, Maker other) {
        return houseOf(maker, other).areAlike(0, 1);
    }

    // ---- promises 25 to 27

    private void alike() {
        sentence(25, "Returns whether two matroids have an isomorphism, by which sets are independent in both.");
        is(true, areAlike(uniform(0, 0), uniform(0, 0)));
        is(false, areAlike(uniform(0, 0), uniform(0, 1)));
        is(false, areAlike(uniform(0, 1), uniform(0, 0)));
        is(false, areAlike(uniform(0, 1), uniform(1, 1)));
        is(true, areAlike(uniform(10, 10), uniform(10, 10)));
        is(true, areAlike(uniform(0, 10), uniform(0, 10)));
        is(false, areAlike(uniform(9, 9), uniform(9, 10)));
        is(false, areAlike(uniform(5, 10), uniform(6, 10)));
        is(false, areAlike(nineAndOne(), uniform(9, 10)));
        is(true, areAlike(bases(10, 1), bases(10, 512)));
        is(false, areAlike(bases(10, 1), bases(10, 1, 512)));
        Circuitfold house = houseOf(triangle());
        is(true, house.areAlike(0, 0));
        asksPair(25, triangle(), triangleBehind(), true, Circuitfold::areAlike);
        asksPair(25, triangle(), uniform(3, 4), false, Circuitfold::areAlike);
        sentence(25, "Returns whether they have.");
        everyPairInOneHouse();
        is(false, areAlike(triangle(), graph(0, 1, 0, 1, 1, 2, 2, 3)));
        is(true, areAlike(graph(0, 1, 1, 2, 2, 3, 0, 1), graph(0, 1, 0, 1, 1, 2, 2, 3)));
        sentence(25, NO_MATROID_EITHER);
        refusedPairs(triangle(), Circuitfold::areAlike);
    }

    /** One after another, forwards and backwards, so that no answer is that of the pair before. */
    private void everyPairInOneHouse() {
        Maker[] makers = {triangle(), uniform(3, 4), triangleBehind(), uniform(0, 0), uniform(1, 2), uniform(3, 4)};
        int[] kinds = {0, 1, 0, 2, 3, 1};
        Circuitfold house = houseOf(makers);
        for (int step = 0; step < 72; step++) {
            int pair = step < 36 ? step : 71 - step;
            int first = pair / 6;
            int second = pair % 6;
            is(kinds[first] == kinds[second], house.areAlike(first, second));
            is(kinds[second] == kinds[first], house.areAlike(second, first));
        }
    }

    /** What a house answers of minors is what a new house answers, whatever was asked before. */
    private void everyMinorInOneHouse() {
        Maker[] makers = {graph(0, 1, 1, 2, 2, 3, 3, 4, 4, 5, 5, 6, 6, 7, 7, 8, 8, 9, 8, 9), uniform(9, 9),
            uniform(1, 10), uniform(1, 9), uniform(2, 4), completeGraph(4), uniform(1, 2), nineAndOne()};
        Circuitfold house = houseOf(makers);
        for (int pair = 0; pair < 64; pair++) {
            int first = pair / 8;
            int second = pair % 8;
            Circuitfold fresh = houseOf(makers[first], makers[second]);
            is(Due.outcome(() -> fresh.minorBy(0, 1)), Due.outcome(() -> house.minorBy(first, second)));
            is(Due.outcome(() -> fresh.symmetries(1)), Due.outcome(() -> house.symmetries(second)));
            is(Due.outcome(() -> fresh.image(1, 1, 1)), Due.outcome(() -> house.image(second, second, 1)));
            is(Due.outcome(() -> fresh.minorWithout(0, 1)), Due.outcome(() -> house.minorWithout(first, second)));
        }
    }

    private static String images(Maker maker, Maker other) {
        Circuitfold house = houseOf(maker, other);
        StringBuilder text = new StringBuilder();
        for (int element = 0; element < house.size(0); element++) {
            text.append(house.image(0, 1, element));
        }
        return text.toString();
    }

    private void images() {
        sentence(26, "Returns an image by the isomorphism from one matroid to another one.");
        is("0", images(uniform(0, 1), uniform(0, 1)));
        is("0123456789", images(uniform(5, 10), uniform(5, 10)));
        is("9012345678", images(bases(10, 1), bases(10, 512)));
        is("1234567890", images(bases(10, 512), bases(10, 1)));
        is("1230", images(triangle(), triangleBehind()));
        asksPair(26, triangle(), triangleBehind(), 0, (house, first, second) -> house.image(first, second, 3));
        asksPair(26, triangleBehind(), triangle(), 3, (house, first, second) -> house.image(first, second, 0));
        sentence(26, "- `element`: the element of the first one");
        is("3012", images(triangleBehind(), triangle()));
        Circuitfold house = houseOf(triangle());
        is(3, house.image(0, 0, 3));
        sentence(26, "Returns the element of the second one.");
        is("9012345678", images(graph(3, 3, 0, 1, 1, 2, 2, 3, 3, 4, 4, 5, 5, 6, 6, 7, 7, 8, 8, 0),
                graph(0, 1, 1, 2, 2, 3, 3, 4, 4, 5, 5, 6, 6, 7, 7, 8, 8, 0, 3, 3)));
    }

    private void imagesThatAreNotThere() {
        sentence(26, "Throws `IndexOutOfBoundsException` if there is no such matroid, for either, or element");
        refusedPairs(triangle(), (house, first, second) -> house.image(first, second, 0));
        refusedPairs(triangle(), (house, first, second) -> house.image(first, second, 4));
        for (int size : new int[] {0, 1, 4, 9, 10}) {
            Maker maker = uniform(0, size);
            refusedElements(() -> houseOf(maker, maker), size, (house, element) -> house.image(0, 1, element));
            Maker unlike = size < 10 ? uniform(0, size + 1) : uniform(0, 0);
            refusedElements(() -> houseOf(maker, unlike), size, (house, element) -> house.image(0, 1, element));
        }
        refused(INDEX, () -> houseOf(uniform(1, 3), uniform(1, 4)), house -> house.image(0, 1, 3));
        sentence(26, "Throws `NoSuchElementException` if there is none");
        for (int element = 0; element < 4; element++) {
            int asked = element;
            refused(NONE, () -> houseOf(triangle(), uniform(3, 4)), house -> house.image(0, 1, asked));
            refused(NONE, () -> houseOf(uniform(1, 4), uniform(1, 3)), house -> house.image(0, 1, asked));
            refused(NONE, () -> full(triangle()), house -> house.image(0, 23, asked));
        }
        refused(NONE, () -> houseOf(uniform(9, 10), nineAndOne()), house -> house.image(0, 1, 9));
        refused(NONE, () -> houseOf(uniform(0, 1), uniform(1, 1)), house -> house.image(0, 1, 0));
    }

    private void symmetries() {
        sentence(27, "Returns how many isomorphisms a matroid has to itself.");
        int factorial = 1;
        for (int size = 0; size <= 10; size++) {
            factorial *= Math.max(1, size);
            for (int rank = 0; rank <= size; rank++) {
                is(factorial, houseOf(uniform(rank, size)).symmetries(0));
            }
        }
        asks(27, triangle(), 6, Circuitfold::symmetries);
        sentence(27, "Returns the number of isomorphisms.");
        is(362880, houseOf(nineAndOne()).symmetries(0));
        is(1, houseOf(graph(0, 1, 2, 2)).symmetries(0));
        is(24, houseOf(completeGraph(4)).symmetries(0));
        sentence(27, NO_MATROID);
        refusedMatroids(triangle(), Circuitfold::symmetries);
    }

    // ---- promises 28 and 29

    private void minors() {
        for (int promise = 28; promise <= 29; promise++) {
            boolean isBy = promise == 28;
            sentence(promise, isBy ? "Looks for a matroid as a minor of another one."
                    : "Returns the set that is deleted for this minor.");
            is("0 0", minor(uniform(0, 0), uniform(0, 0)));
            is("0 1", minor(uniform(0, 1), uniform(0, 0)));
            is("1 0", minor(uniform(1, 1), uniform(0, 0)));
            is("0 1023", minor(uniform(0, 10), uniform(0, 0)));
            is("1023 0", minor(uniform(10, 10), uniform(0, 0)));
            is("31 992", minor(uniform(5, 10), uniform(0, 0)));
            is("0 0", minor(uniform(5, 10), uniform(5, 10)));
            is("0 1", minor(uniform(5, 10), uniform(5, 9)));
            is("1 0", minor(uniform(5, 10), uniform(4, 9)));
            is("511 0", minor(uniform(10, 10), uniform(1, 1)));
            is("0 511", minor(uniform(0, 10), uniform(0, 1)));
            sentence(promise, isBy ? "Returns the set that is contracted." : "Returns the set.");
            is("512 0", minor(nineAndOne(), uniform(8, 9)));
            is("0 1", minor(nineAndOne(), uniform(9, 9)));
            is("1 14", minor(completeGraph(5), completeGraph(4)));
            sentence(promise, MATROID);
            is(0, houseOf(triangle()).minorBy(0, 0));
            is(0, houseOf(triangle()).minorWithout(0, 0));
            asksMinor(promise, triangle(), uniform(1, 2), isBy ? 9 : 0);
            asksMinor(promise, completeGraph(4), uniform(1, 2), isBy ? 3 : 12);
            asksMinor(promise, triangle(), uniform(3, 3), isBy ? 0 : 1);
            everyMinorInOneHouse();
            sentence(promise, NO_MATROID_EITHER);
            refusedPairs(triangle(), isBy ? Circuitfold::minorBy : Circuitfold::minorWithout);
        }
    }

    private void asksMinor(int promise, Maker maker, Maker minor, int want) {
        OfTwo call = promise == 28 ? Circuitfold::minorBy : Circuitfold::minorWithout;
        for (String parameter : new String[] {MATROID, MINOR}) {
            sentence(promise, parameter);
            is(want, call.on(houseOf(maker, minor), 0, 1));
            is(want, call.on(houseOf(minor, maker), 1, 0));
            is(want, call.on(placed(24, 0, maker, 23, minor), 0, 23));
            is(want, call.on(placed(24, 23, maker, 0, minor), 23, 0));
        }
    }

    private void minorsThatAreNotThere() {
        for (int promise = 28; promise <= 29; promise++) {
            OfTwo call = promise == 28 ? Circuitfold::minorBy : Circuitfold::minorWithout;
            sentence(promise, NO_MINOR);
            refusedMinor(uniform(0, 0), uniform(0, 1), call);
            refusedMinor(uniform(0, 0), uniform(1, 1), call);
            refusedMinor(uniform(0, 1), uniform(1, 1), call);
            refusedMinor(uniform(1, 1), uniform(0, 1), call);
            refusedMinor(uniform(0, 10), uniform(1, 1), call);
            refusedMinor(uniform(10, 10), uniform(0, 1), call);
            refusedMinor(uniform(5, 9), uniform(5, 10), call);
            refusedMinor(uniform(5, 10), uniform(6, 10), call);
            refusedMinor(uniform(6, 10), uniform(5, 10), call);
            refusedMinor(uniform(9, 10), nineAndOne(), call);
            refusedMinor(completeGraph(4), uniform(2, 4), call);
            refusedMinor(triangle(), triangleBehindAndLoop(), call);
        }
    }

    private static Maker triangleBehindAndLoop() {
        return graph(0, 1, 1, 2, 2, 0, 3, 3);
    }

    private void refusedMinor(Maker maker, Maker minor, OfTwo call) {
        refused(NONE, () -> houseOf(maker, minor), house -> call.on(house, 0, 1));
        refused(NONE, () -> full(minor, maker), house -> call.on(house, 1, 0));
    }

    // ---- promises 30 and 31

    private static boolean isDrawn(int field, Maker maker) {
        return houseOf(maker).canBeDrawn(0, field);
    }

    private void drawable() {
        sentence(30, "Returns whether a matroid can be drawn over a field; one of the rank 0 can, without rows.");
        for (int size = 0; size <= 10; size++) {
            is(true, isDrawn(2, uniform(0, size)));
            is(true, isDrawn(3, uniform(0, size)));
        }
        asks(30, fano(), true, (house, matroid) -> house.canBeDrawn(matroid, 2));
        asks(30, fano(), false, (house, matroid) -> house.canBeDrawn(matroid, 3));
        sentence(30, FIELD);
        for (int size = 2; size <= 10; size++) {
            is(size <= 3, isDrawn(2, uniform(2, size)));
            is(size <= 4, isDrawn(3, uniform(2, size)));
        }
        sentence(30, "Returns whether it can.");
        is(true, isDrawn(2, uniform(10, 10)));
        is(true, isDrawn(3, uniform(10, 10)));
        is(true, isDrawn(2, uniform(9, 10)));
        is(true, isDrawn(3, uniform(9, 10)));
        is(false, isDrawn(2, uniform(8, 10)));
        is(false, isDrawn(3, uniform(8, 10)));
        is(true, isDrawn(2, uniform(1, 10)));
        is(true, isDrawn(2, completeGraph(5)));
        is(true, isDrawn(3, completeGraph(5)));
        sentence(30, NO_MATROID);
        refusedMatroids(triangle(), (house, matroid) -> house.canBeDrawn(matroid, 2));
        refusedMatroids(triangle(), (house, matroid) -> house.canBeDrawn(matroid, 3));
        for (int field : NO_FIELDS) {
            refusedMatroids(triangle(), (house, matroid) -> house.canBeDrawn(matroid, field));
        }
    }

    private void fieldsThatAreNotThere() {
        for (int field : NO_FIELDS) {
            for (Maker maker : new Maker[] {uniform(0, 0), uniform(0, 1), uniform(2, 5), triangle(), uniform(10, 10)}) {
                sentence(30, NO_FIELD);
                refused(ARGUMENT, () -> houseOf(maker), house -> house.canBeDrawn(0, field));
                refused(ARGUMENT, () -> full(maker), house -> house.canBeDrawn(0, field));
                if (houseOf(maker).size(0) > 0) {
                    sentence(31, NO_FIELD);
                    for (int row : new int[] {0, -1, 10, LEAST, GREATEST}) {
                        refused(ARGUMENT, () -> houseOf(maker), house -> house.entry(0, field, row, 0));
                    }
                }
            }
        }
    }

    private void entries() {
        sentence(31, "Returns an entry of the drawing.");
        is("1", drawing(2, uniform(1, 1)));
        is("1 1 1 1 1 1 1 1 1 1", drawing(2, uniform(1, 10)));
        is("1 1 1 1 1 1 1 1 1 1", drawing(3, uniform(1, 10)));
        is("100 010 110 001 101 011 111", drawing(2, fano()));
        asks(31, uniform(2, 4), 2, (house, matroid) -> house.entry(matroid, 3, 1, 3));
        sentence(31, FIELD);
        is("100 010 001 110 101 011", drawing(2, completeGraph(4)));
        is("100 010 001 110 101 012", drawing(3, completeGraph(4)));
        sentence(31, "- `row`: the row, from 0");
        is(1, houseOf(uniform(10, 10)).entry(0, 2, 0, 0));
        is(1, houseOf(uniform(10, 10)).entry(0, 3, 9, 9));
        is(0, houseOf(uniform(10, 10)).entry(0, 3, 9, 0));
        is(0, houseOf(uniform(10, 10)).entry(0, 2, 0, 9));
        sentence(31, "- `element`: the element");
        is(1, houseOf(uniform(9, 10)).entry(0, 3, 0, 9));
        is(1, houseOf(uniform(9, 10)).entry(0, 2, 8, 9));
        is(1, houseOf(uniform(9, 10)).entry(0, 2, 0, 0));
        sentence(31, "Returns the entry.");
        is("00 10 10 01 11", drawing(2, graph(5, 5, 0, 1, 0, 1, 1, 2, 2, 0)));
        is("00 10 10 01 11", drawing(3, graph(5, 5, 0, 1, 0, 1, 1, 2, 2, 0)));
    }

    private void entriesThatAreNotThere() {
        sentence(31, NO_MATROID_OR_ELEMENT);
        for (int row : new int[] {0, -1, 3, 10, LEAST, GREATEST}) {
            refusedMatroids(triangle(), (house, matroid) -> house.entry(matroid, 2, row, 0));
            refusedMatroids(triangle(), (house, matroid) -> house.entry(matroid, 3, row, 4));
            refusedMatroids(triangle(), (house, matroid) -> house.entry(matroid, 5, row, 0));
            refusedMatroids(uniform(2, 5), (house, matroid) -> house.entry(matroid, 0, row, -1));
        }
        for (Maker maker : new Maker[] {uniform(0, 0), uniform(0, 1), uniform(2, 5), triangle(), uniform(10, 10)}) {
            int size = houseOf(maker).size(0);
            for (int field : new int[] {2, 3, 5}) {
                refusedElements(() -> houseOf(maker), size, (house, element) -> house.entry(0, field, 0, element));
                refusedElements(() -> full(maker), size, (house, element) -> house.entry(0, field, -1, element));
            }
        }
        sentence(31, "Throws `NoSuchElementException` if there is no such row, or it cannot be drawn");
        for (int rank = 0; rank <= 10; rank++) {
            Maker maker = uniform(rank, Math.max(1, rank));
            for (int row : new int[] {-1, rank, rank + 1, 10, 32, LEAST, GREATEST}) {
                refused(NONE, () -> houseOf(maker), house -> house.entry(0, 2, row, 0));
                refused(NONE, () -> full(maker), house -> house.entry(0, 3, row, 0));
            }
        }
        for (int row : new int[] {-1, 0, 1, 2, 3}) {
            refused(NONE, () -> houseOf(uniform(2, 4)), house -> house.entry(0, 2, row, 3));
            refused(NONE, () -> houseOf(uniform(2, 5)), house -> house.entry(0, 3, row, 0));
            refused(NONE, () -> houseOf(fano()), house -> house.entry(0, 3, row, 6));
            refused(NONE, () -> houseOf(uniform(0, 10)), house -> house.entry(0, 2, row, 9));
        }
    }
}
