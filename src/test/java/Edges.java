import java.util.NoSuchElementException;
import java.util.function.Consumer;
import java.util.function.Supplier;

/** What the tests of the document's boundary cases have in common. No house here is asked more than 512 times. */
abstract class Edges {

    static final Class<IllegalArgumentException> ARGUMENT = IllegalArgumentException.class;
    static final Class<IllegalStateException> STATE = IllegalStateException.class;
    static final Class<IndexOutOfBoundsException> INDEX = IndexOutOfBoundsException.class;
    static final Class<UnsupportedOperationException> UNSUPPORTED = UnsupportedOperationException.class;
    static final Class<NoSuchElementException> NONE = NoSuchElementException.class;
    static final Class<ArithmeticException> ARITHMETIC = ArithmeticException.class;

    /** Sets that no matroid has, or not each one. */
    static final int[] STRANGE_SETS = {-1, 0, 1, 7, 15, 16, 1023, 1024, 65536, Integer.MIN_VALUE, Integer.MAX_VALUE};
    static final int LEAST = Integer.MIN_VALUE;
    static final int GREATEST = Integer.MAX_VALUE;

    static final String NO_MATROID = "Throws `IndexOutOfBoundsException` if there is no such matroid";
    static final String NO_MATROID_OR_ELEMENT = NO_MATROID + " or element";
    static final String NO_MATROID_EITHER = NO_MATROID + ", for either";
    static final String OTHER_ELEMENTS = "Throws `IllegalArgumentException` if a set has other elements";
    static final String FULL = "Throws `IllegalStateException` if there are 24 matroids";
    static final String MADE = "Returns the number of the matroid that is made.";
    static final String MATROID = "- `matroid`: the number of the matroid";
    static final String FIRST = "- `first`: the number of the matroid";
    static final String SECOND = "- `second`: the number of the other matroid";

    /** Makes just one matroid. */
    interface Maker {
        void in(Circuitfold house);
    }

    interface Call {
        Object on(Circuitfold house);
    }

    interface OfOne {
        Object on(Circuitfold house, int number);
    }

    interface OfTwo {
        Object on(Circuitfold house, int first, int second);
    }

    private final Due due;

    Edges(Due due) {
        this.due = due;
    }

    abstract void all();

    void sentence(int promise, String text) {
        due.sentence(promise, text);
    }

    void is(Object want, Object got) {
        due.is(want, got);
    }

    // ---- houses

    static Circuitfold empty() {
        return new Circuitfold();
    }

    static Circuitfold typed(Circuitfold house, int... numbers) {
        house.erase();
        for (int number : numbers) {
            house.type(number);
        }
        return house;
    }

    /** So many times the same number. */
    static int[] times(int count, int number) {
        int[] numbers = new int[count];
        java.util.Arrays.fill(numbers, number);
        return numbers;
    }

    /** The same numbers, but for one. */
    static int[] with(int[] numbers, int index, int number) {
        int[] changed = numbers.clone();
        changed[index] = number;
        return changed;
    }

    static Circuitfold houseOf(Maker... makers) {
        Circuitfold house = empty();
        for (Maker maker : makers) {
            maker.in(house);
        }
        return house;
    }

    /** So many matroids: those of the makers first, then some without elements. */
    static Circuitfold filled(int count, Maker... makers) {
        Circuitfold house = houseOf(makers);
        while (house.matroids() < count) {
            house.uniform(0, 0);
        }
        return house;
    }

    /** 24 matroids, those of the makers first. */
    static Circuitfold full(Maker... makers) {
        return filled(24, makers);
    }

    /** So many matroids, all without elements but for those at two places, of which the second one counts less. */
    static Circuitfold placed(int count, int place, Maker maker, int otherPlace, Maker other) {
        Circuitfold house = empty();
        for (int i = 0; i < count; i++) {
            if (i == place) {
                maker.in(house);
            } else if (i == otherPlace) {
                other.in(house);
            } else {
                house.uniform(0, 0);
            }
        }
        return house;
    }

    static Maker uniform(int rank, int size) {
        return house -> house.uniform(rank, size);
    }

    static Maker graph(int... vertices) {
        return house -> typed(house, vertices).graph();
    }

    static Maker columns(int field, int rows, int... entries) {
        return house -> typed(house, entries).columns(field, rows);
    }

    static Maker bases(int size, int... sets) {
        return house -> typed(house, sets).bases(size);
    }

    static Maker meeting(int size, int... places) {
        return house -> typed(house, places).meeting(size);
    }

    /** A triangle of 0, 1 and 2, and an edge 3 beside it. */
    static Maker triangle() {
        return graph(0, 1, 1, 2, 2, 0, 2, 3);
    }

    static Maker completeGraph(int vertices) {
        int[] ends = new int[vertices * (vertices - 1)];
        int next = 0;
        for (int u = 0; u < vertices; u++) {
            for (int v = u + 1; v < vertices; v++) {
                ends[next++] = u;
                ends[next++] = v;
            }
        }
        return graph(ends);
    }

    static Maker fano() {
        return columns(2, 3, 1, 0, 0, 0, 1, 0, 1, 1, 0, 0, 0, 1, 1, 0, 1, 0, 1, 1, 1, 1, 1);
    }

    /** A circuit of nine elements and one element beside it: the circuit is a hyperplane, too. */
    static Maker nineAndOne() {
        return graph(0, 1, 1, 2, 2, 3, 3, 4, 4, 5, 5, 6, 6, 7, 7, 8, 8, 0, 0, 9);
    }

    // ---- what a house tells

    static String list(Circuitfold house, int matroid, char sort) {
        StringBuilder text = new StringBuilder();
        int count = house.count(matroid, sort);
        for (int i = 0; i < count; i++) {
            text.append(i == 0 ? "" : " ").append(house.setAt(matroid, sort, i));
        }
        return text.toString();
    }

    /** The number of elements and the bases: these tell a matroid. */
    static String shape(Circuitfold house, int matroid) {
        return house.size(matroid) + ": " + list(house, matroid, 'b');
    }

    /** The matroid that a maker makes. */
    static String shape(Maker maker) {
        return shape(houseOf(maker), 0);
    }

    /** What the call makes of one matroid that is alone. */
    static String made(Maker maker, Call call) {
        Circuitfold house = houseOf(maker);
        call.on(house);
        return shape(house, 1);
    }

    static String minor(Maker maker, Maker minor) {
        Circuitfold house = houseOf(maker, minor);
        return house.minorBy(0, 1) + " " + house.minorWithout(0, 1);
    }

    static String drawing(int field, Maker maker) {
        Circuitfold house = houseOf(maker);
        int rows = house.rank(0, (1 << house.size(0)) - 1);
        StringBuilder text = new StringBuilder();
        for (int element = 0; element < house.size(0); element++) {
            text.append(element == 0 ? "" : " ");
            for (int row = 0; row < rows; row++) {
                text.append(house.entry(0, field, row, element));
            }
        }
        return text.toString();
    }

    static long power(int base, int exponent) {
        long power = 1;
        for (int i = 0; i < exponent; i++) {
            power *= base;
        }
        return power;
    }

    static String told(Circuitfold house) {
        return Due.outcome(() -> house.broken('a') + " " + house.broken('b') + " " + house.broken('x')).toString();
    }

    // ---- refused calls

    /** The call throws just this, and the house then tells what its twin tells that was not asked. */
    void refused(Class<? extends RuntimeException> type, Supplier<Circuitfold> make, Call call) {
        Circuitfold asked = make.get();
        due.fails(type, () -> call.on(asked));
        due.is(told(make.get()), told(asked));
        due.is(State.of(make.get()), State.of(asked));
    }

    /** As above, but what is told of broken bases is this. */
    void refusedTelling(Class<? extends RuntimeException> type, Object broken, Supplier<Circuitfold> make, Call call) {
        Circuitfold asked = make.get();
        due.fails(type, () -> call.on(asked));
        due.is(broken.toString(), told(asked));
        due.is(State.of(make.get()), State.of(asked));
    }

    /** No such element among so many, whatever the house is like. */
    void refusedElements(Supplier<Circuitfold> make, int size, OfOne call) {
        for (int element : new int[] {-1, size, size + 1, 31, 32, 33, 64, -32, LEAST, GREATEST}) {
            refused(INDEX, make, house -> call.on(house, element));
        }
    }

    /** Sets with other elements than so many. */
    void refusedSets(Supplier<Circuitfold> make, int size, OfOne call) {
        for (int set : new int[] {-1, 1 << size, (1 << size) + 1, 1 << 10, -1 << size, 1 << 30, LEAST, GREATEST}) {
            refused(ARGUMENT, make, house -> call.on(house, set));
        }
    }

    // ---- numbers of matroids

    /** The first and the last of 24 matroids are asked, and the only one. */
    void asks(int promise, Maker maker, Object want, OfOne call) {
        sentence(promise, MATROID);
        is(want, call.on(houseOf(maker), 0));
        is(want, call.on(placed(24, 0, maker, 0, maker), 0));
        is(want, call.on(placed(24, 23, maker, 23, maker), 23));
    }

    /** No number beside those of the matroids is one: of none, of one and of 24. */
    void refusedMatroids(Maker maker, OfOne call) {
        for (int number : new int[] {-1, 0, 1, 23, 24, 32, LEAST, GREATEST}) {
            refused(INDEX, Edges::empty, house -> call.on(house, number));
        }
        for (int number : new int[] {-1, 1, 2, 24, 32, LEAST, GREATEST}) {
            refused(INDEX, () -> houseOf(maker), house -> call.on(house, number));
        }
        for (int number : new int[] {-1, 24, 25, 32, LEAST, GREATEST}) {
            refused(INDEX, () -> full(maker), house -> call.on(house, number));
        }
    }

    /** Two numbers, the first one of this matroid and the second one of that: at both ends of 24, and of two. */
    void asksPair(int promise, Maker maker, Maker other, Object want, OfTwo call) {
        for (String parameter : new String[] {FIRST, SECOND}) {
            sentence(promise, parameter);
            is(want, call.on(houseOf(maker, other), 0, 1));
            is(want, call.on(houseOf(other, maker), 1, 0));
            is(want, call.on(placed(24, 0, maker, 23, other), 0, 23));
            is(want, call.on(placed(24, 23, maker, 0, other), 23, 0));
        }
    }

    /** The first one may be none, the second one, and both; of none, of one and of 24. */
    void refusedPairs(Maker maker, OfTwo call) {
        refused(INDEX, Edges::empty, house -> call.on(house, 0, 0));
        for (int number : new int[] {-1, 1, 24, LEAST, GREATEST}) {
            refusedPair(() -> houseOf(maker), number, call);
        }
        for (int number : new int[] {-1, 24, 25, LEAST, GREATEST}) {
            refusedPair(() -> full(maker), number, call);
        }
    }

    private void refusedPair(Supplier<Circuitfold> make, int number, OfTwo call) {
        refused(INDEX, make, house -> call.on(house, 0, number));
        refused(INDEX, make, house -> call.on(house, number, 0));
        refused(INDEX, make, house -> call.on(house, number, number));
    }

    // ---- made matroids

    /** The matroid that is made is behind the others: as number 1, and as the last one, 23; and is of this shape. */
    void makes(int promise, Maker maker, String want, OfOne call) {
        sentence(promise, MATROID);
        for (int place : new int[] {0, 22}) {
            Circuitfold house = placed(23, place, maker, place, maker);
            is(23, call.on(house, place));
            is(want, shape(house, 23));
        }
        sentence(promise, MADE);
        Circuitfold house = houseOf(maker);
        for (int number = 1; number < 24; number++) {
            is(number, call.on(house, 0));
            is(number + 1, house.matroids());
        }
        is(shape(maker), shape(house, 0));
        sentence(promise, FULL);
        refused(STATE, () -> full(maker), full -> call.on(full, 0));
        refused(STATE, () -> placed(24, 23, maker, 23, maker), full -> call.on(full, 23));
    }

    /** As above, of two matroids. */
    void makesOfPair(int promise, Maker maker, Maker other, String want, OfTwo call) {
        for (String parameter : new String[] {FIRST, SECOND}) {
            sentence(promise, parameter);
            for (int place : new int[] {0, 22}) {
                Circuitfold house = placed(23, place, maker, 22 - place, other);
                is(23, call.on(house, place, 22 - place));
                is(want, shape(house, 23));
            }
        }
        sentence(promise, MADE);
        Circuitfold house = houseOf(maker, other);
        for (int number = 2; number < 24; number++) {
            is(number, call.on(house, 0, 1));
            is(number + 1, house.matroids());
        }
        is(shape(maker), shape(house, 0));
        is(shape(other), shape(house, 1));
        sentence(promise, FULL);
        refused(STATE, () -> full(maker, other), full -> call.on(full, 0, 1));
        refused(STATE, () -> placed(24, 23, maker, 0, other), full -> call.on(full, 23, 0));
    }

    /** A matroid given by the row, or by none, is made as number 0, as the last one, and not beside 24. */
    void makesAnew(int promise, int typed, Consumer<Circuitfold> prepare, Call call) {
        sentence(promise, MADE);
        Circuitfold house = empty();
        for (int number = 0; number < 24; number++) {
            prepare.accept(house);
            is(number, call.on(house));
            is(number + 1, house.matroids());
        }
        sentence(promise, FULL);
        Supplier<Circuitfold> full = () -> {
            Circuitfold made = full();
            prepare.accept(made);
            return made;
        };
        refused(STATE, full, call);
        Circuitfold asked = full.get();
        due.fails(STATE, () -> call.on(asked));
        is(typed, asked.erase());
    }
}
