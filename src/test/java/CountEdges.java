/** The boundary cases of promises 40 to 46: counting, and what is told of all matroids. */
final class CountEdges extends Edges {

    private static final String NO_POWER = "Throws `IllegalArgumentException` if there is no such power";
    private static final String NONE_THERE = "Throws `ArithmeticException` if there are none";
    private static final int[] NO_POWERS = {-1, 11, 12, 32, -10, LEAST, GREATEST};
    private static final int[] NO_VALUES = {-10, 10, -11, 11, 100, LEAST, GREATEST};

    CountEdges(Due due) {
        super(due);
    }

    @Override
    void all() {
        coefficients();
        powersThatAreNotThere();
        values();
        valuesOutOfRange();
        others();
        numberOfMatroids();
        binaryShares();
        meanBases();
        soundness();
    }

    // ---- promise 40

    /** The coefficients that are not 0, by rising powers of x, then of y. */
    private static String polynomial(Maker maker) {
        Circuitfold house = houseOf(maker);
        StringBuilder text = new StringBuilder();
        for (int x = 0; x <= 10; x++) {
            for (int y = 0; y <= 10; y++) {
                int coefficient = house.coefficient(0, x, y);
                if (coefficient != 0) {
                    text.append(coefficient).append('x').append(x).append('y').append(y).append(' ');
                }
            }
        }
        return text.toString().trim();
    }

    private void coefficients() {
        sentence(40, "Returns a coefficient of the polynomial.");
        is("1x0y0", polynomial(uniform(0, 0)));
        is("1x0y1", polynomial(uniform(0, 1)));
        is("1x1y0", polynomial(uniform(1, 1)));
        is("1x0y1 1x1y0", polynomial(uniform(1, 2)));
        is("1x0y1 1x0y2 1x0y3 1x0y4 1x0y5 1x0y6 1x0y7 1x0y8 1x0y9 1x1y0", polynomial(uniform(1, 10)));
        is("70x0y1 35x0y2 15x0y3 5x0y4 1x0y5 70x1y0 35x2y0 15x3y0 5x4y0 1x5y0", polynomial(uniform(5, 10)));
        is("1x5y5", polynomial(fiveAndFiveLoops()));
        asks(40, completeGraph(4), 4, (house, matroid) -> house.coefficient(matroid, 1, 1));
        sentence(40, "- `x`: the power of x, 0 to 10");
        is("1x10y0", polynomial(uniform(10, 10)));
        is("1x1y1 1x2y0 1x3y0", polynomial(triangle()));
        sentence(40, "- `y`: the power of y, 0 to 10");
        is("1x0y10", polynomial(uniform(0, 10)));
        sentence(40, "Returns the coefficient.");
        is("2x0y1 3x0y2 1x0y3 2x1y0 4x1y1 3x2y0 1x3y0", polynomial(completeGraph(4)));
        sentence(40, NO_MATROID);
        refusedMatroids(triangle(), (house, matroid) -> house.coefficient(matroid, 0, 0));
        for (int power : NO_POWERS) {
            refusedMatroids(triangle(), (house, matroid) -> house.coefficient(matroid, power, 0));
            refusedMatroids(triangle(), (house, matroid) -> house.coefficient(matroid, 0, power));
            refusedMatroids(triangle(), (house, matroid) -> house.coefficient(matroid, power, power));
        }
    }

    /** Five edges without a ring, and five loops behind them. */
    private static Maker fiveAndFiveLoops() {
        return graph(0, 1, 1, 2, 2, 3, 3, 4, 4, 5, 6, 6, 7, 7, 8, 8, 9, 9, 0, 0);
    }

    private void powersThatAreNotThere() {
        for (Maker maker : new Maker[] {uniform(0, 0), triangle(), uniform(10, 10), uniform(0, 10)}) {
            for (int power : NO_POWERS) {
                sentence(40, NO_POWER);
                for (int other : new int[] {0, 5, 10, power}) {
                    refused(ARGUMENT, () -> houseOf(maker), house -> house.coefficient(0, power, other));
                    refused(ARGUMENT, () -> houseOf(maker), house -> house.coefficient(0, other, power));
                }
                refused(ARGUMENT, () -> full(maker), house -> house.coefficient(23, 0, power));
                sentence(42, NO_POWER);
                refused(ARGUMENT, () -> houseOf(maker), house -> house.other(0, power));
                refused(ARGUMENT, () -> full(maker), house -> house.other(23, power));
            }
        }
    }

    // ---- promise 41

    private static long value(Maker maker, int x, int y) {
        return houseOf(maker).value(0, x, y);
    }

    private void values() {
        sentence(41, "Returns the value of the polynomial.");
        is(1L, value(uniform(0, 0), -9, 9));
        is(1L, value(uniform(0, 0), 1, 1));
        is(16L, value(completeGraph(4), 1, 1));
        is(252L, value(uniform(5, 10), 1, 1));
        is(1024L, value(uniform(5, 10), 2, 2));
        is(638L, value(uniform(5, 10), 2, 1));
        is(638L, value(uniform(5, 10), 1, 2));
        asks(41, triangle(), -27L, (house, matroid) -> house.value(matroid, -3, 3));
        sentence(41, "- `x`: x, -9 to 9");
        for (int x = -9; x <= 9; x++) {
            is((long) x, value(uniform(1, 1), x, 5));
            is(power(x, 10), value(uniform(10, 10), x, -9));
            is(power(x, 10), value(uniform(10, 10), x, 9));
        }
        sentence(41, "- `y`: y, -9 to 9");
        for (int y = -9; y <= 9; y++) {
            is((long) y, value(uniform(0, 1), 5, y));
            is(power(y, 10), value(uniform(0, 10), 9, y));
            is(power(y, 10), value(uniform(0, 10), -9, y));
        }
        sentence(41, "Returns the value.");
        for (int x : new int[] {-9, -8, -1, 0, 1, 8, 9}) {
            for (int y : new int[] {-9, -8, -1, 0, 1, 8, 9}) {
                is(power(x, 5) * power(y, 5), value(fiveAndFiveLoops(), x, y));
                is(power(x, 3) + power(x, 2) + (long) x * y, value(triangle(), x, y));
            }
        }
        sentence(41, NO_MATROID);
        refusedMatroids(triangle(), (house, matroid) -> house.value(matroid, 0, 0));
        for (int number : NO_VALUES) {
            refusedMatroids(triangle(), (house, matroid) -> house.value(matroid, number, 0));
            refusedMatroids(triangle(), (house, matroid) -> house.value(matroid, 0, number));
            refusedMatroids(triangle(), (house, matroid) -> house.value(matroid, number, number));
        }
    }

    private void valuesOutOfRange() {
        sentence(41, "Throws `IllegalArgumentException` if a number is out of range");
        for (Maker maker : new Maker[] {uniform(0, 0), triangle(), uniform(5, 10)}) {
            for (int number : NO_VALUES) {
                for (int other : new int[] {-9, 0, 9, number}) {
                    refused(ARGUMENT, () -> houseOf(maker), house -> house.value(0, number, other));
                    refused(ARGUMENT, () -> houseOf(maker), house -> house.value(0, other, number));
                }
                refused(ARGUMENT, () -> full(maker), house -> house.value(23, number, 1));
            }
        }
    }

    // ---- promise 42

    private static String others(Maker maker) {
        Circuitfold house = houseOf(maker);
        StringBuilder text = new StringBuilder();
        for (int power = 0; power <= 10; power++) {
            text.append(house.other(0, power)).append(' ');
        }
        return text.toString().trim();
    }

    private void others() {
        sentence(42, "Returns a coefficient of the other polynomial.");
        is("1 0 0 0 0 0 0 0 0 0 0", others(uniform(0, 0)));
        is("0 0 0 0 0 0 0 0 0 0 0", others(uniform(0, 1)));
        is("-1 1 0 0 0 0 0 0 0 0 0", others(uniform(1, 1)));
        is("-1 1 0 0 0 0 0 0 0 0 0", others(uniform(1, 10)));
        is("0 0 0 0 0 0 0 0 0 0 0", others(uniform(0, 10)));
        is("0 0 0 0 0 0 0 0 0 0 0", others(fiveAndFiveLoops()));
        asks(42, completeGraph(4), 11, (house, matroid) -> house.other(matroid, 1));
        sentence(42, "- `power`: the power of q, 0 to 10");
        is("1 -10 45 -120 210 -252 210 -120 45 -10 1", others(uniform(10, 10)));
        sentence(42, "Returns the coefficient.");
        is("-126 210 -120 45 -10 1 0 0 0 0 0", others(uniform(5, 10)));
        is("-6 11 -6 1 0 0 0 0 0 0 0", others(completeGraph(4)));
        sentence(42, NO_MATROID);
        refusedMatroids(triangle(), (house, matroid) -> house.other(matroid, 0));
        for (int power : NO_POWERS) {
            refusedMatroids(triangle(), (house, matroid) -> house.other(matroid, power));
        }
    }

    // ---- promises 43 to 46

    private void numberOfMatroids() {
        sentence(43, "Returns the number of matroids.");
        for (int count = 0; count <= 24; count++) {
            is(count, filled(count).matroids());
        }
        Circuitfold house = full(triangle());
        is(STATE, Due.outcome(() -> house.uniform(0, 0)));
        is(24, house.matroids());
        is(0, typed(empty(), 1, 2).matroids());
    }

    private void binaryShares() {
        sentence(44, "Returns the share of the matroids that can be drawn over the field of 2.");
        is(1f, houseOf(uniform(0, 0)).binaryShare());
        is(0f, houseOf(uniform(2, 4)).binaryShare());
        is(1f, full(fano()).binaryShare());
        sentence(44, "Returns their number divided by that of all, both converted to float.");
        for (int count = 1; count <= 24; count++) {
            for (int binary = 0; binary <= count; binary++) {
                is((float) binary / (float) count, withLines(count, binary).binaryShare());
            }
        }
        Circuitfold house = houseOf(uniform(2, 4));
        is(0f, house.binaryShare());
        house.uniform(2, 3);
        is(0.5f, house.binaryShare());
        sentence(44, NONE_THERE);
        refused(ARITHMETIC, Edges::empty, Circuitfold::binaryShare);
        refused(ARITHMETIC, () -> typed(empty(), 1, 2), Circuitfold::binaryShare);
    }

    /** So many matroids, of which the last ones can be drawn over the field of 2. */
    private static Circuitfold withLines(int count, int binary) {
        Circuitfold house = empty();
        for (int i = 0; i < count; i++) {
            house.uniform(i < count - binary ? 2 : 1, 4);
        }
        return house;
    }

    private void meanBases() {
        sentence(45, "Returns the mean number of bases.");
        is(1.0, houseOf(uniform(0, 0)).meanBases());
        is(1.0, houseOf(uniform(10, 10)).meanBases());
        is(252.0, houseOf(uniform(5, 10)).meanBases());
        sentence(45, "Returns the sum divided by the number of matroids, both converted to double.");
        for (int count = 1; count <= 24; count++) {
            is((double) (count - 1 + 252) / (double) count, filled(count, uniform(5, 10)).meanBases());
        }
        Circuitfold house = houseOf(uniform(1, 2));
        is(2.0, house.meanBases());
        house.uniform(1, 3);
        is(2.5, house.meanBases());
        house.uniform(1, 8);
        is(13.0 / 3.0, house.meanBases());
        sentence(45, NONE_THERE);
        refused(ARITHMETIC, Edges::empty, Circuitfold::meanBases);
        refused(ARITHMETIC, () -> typed(empty(), 1, 2), Circuitfold::meanBases);
    }

    /** What the second call makes of what the first one made. */
    private static String made(Maker maker, Call call, Call next) {
        Circuitfold house = houseOf(maker);
        call.on(house);
        next.on(house);
        return shape(house, 2);
    }

    private void soundness() {
        sentence(46, "Checks, for each matroid, the rule of bases, that the dual of its dual is itself, and that its "
                + "polynomial has at 1 and 1 the number of bases, at 2 and 2 that of sets, and at 2 and 1 that of "
                + "independent sets.");
        is(true, empty().isSound());
        for (Maker maker : new Maker[] {uniform(0, 0), uniform(0, 10), uniform(10, 10), uniform(5, 10), nineAndOne(),
            fano()}) {
            is(true, houseOf(maker).isSound());
            is(true, full(maker).isSound());
            Circuitfold house = houseOf(maker);
            is(house.value(0, 1, 1), (long) house.count(0, 'b'));
            is(house.value(0, 2, 2), 1L << house.size(0));
            is(house.value(0, 2, 1), (long) house.count(0, 'i'));
            is(shape(maker), made(maker, asked -> asked.dual(0), asked -> asked.dual(1)));
        }
        sentence(46, "Returns whether this holds.");
        Circuitfold house = houseOf(triangle(), fano());
        is(true, house.isSound());
        house.relax(1, house.setAt(1, 'c', 0));
        is(true, house.isSound());
        house.union(0, 0);
        house.extend(2, 3);
        house.sum(0, 0);
        house.truncate(1);
        is(true, house.isSound());
        Due.outcome(() -> typed(house, 3, 12).bases(4));
        is(true, house.isSound());
        is("3 12 0", told(house));
    }
}
