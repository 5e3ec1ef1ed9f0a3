import java.util.Arrays;
import java.util.NoSuchElementException;

/** A house of matroids on at most 10 elements; sets of elements are told as sums of powers of 2. */
public final class Circuitfold {

    private static final int MOST_MATROIDS = 24;
    private static final int MOST_ELEMENTS = 10;
    private static final int MOST_SETS = 1024;
    private static final int MOST_TYPED = 60;
    private static final int GREATEST_TYPED = 1023;
    private static final int MOST_ROWS = 6;
    private static final int MOST_PLACES = 10;
    private static final int VERTICES = 10;
    private static final int MOST_POWER = 10;
    private static final int GREATEST_VALUE = 9;

    private static final int INDEPENDENT = 1;
    private static final int BASIS = 2;
    private static final int CIRCUIT = 4;
    private static final int FLAT = 8;
    private static final int HYPERPLANE = 16;

    private final Row typed = new Row();
    private final Matroid[] kept = new Matroid[MOST_MATROIDS];
    private int made;

    // Two of each: checking soundness must not disturb what is told of broken bases, nor a search for symmetries or
    // minors the images that were found last.
    private final Exchange typedBases = new Exchange();
    private final Exchange checkedBases = new Exchange();
    private final Likeness pair = new Likeness();
    private final Likeness inner = new Likeness();
    private final Minors minors = new Minors(inner);

    // A matroid never changes, so an answer about two of them, and that one is sound, holds for good.
    private int pairFirst = -1;
    private int pairSecond = -1;
    private boolean pairIsAlike;
    private int soundSoFar;

    public Circuitfold() {
    }

    // ---- the row, and matroids that are given

    public int type(int number) throws IllegalArgumentException, IllegalStateException {
        if (number < 0 || number > GREATEST_TYPED) {
            throw new IllegalArgumentException("a typed number is 0 to 1023");
        }
        if (typed.isFull()) {
            throw new IllegalStateException("the row has 60 numbers");
        }
        typed.put(number);
        return typed.length();
    }

    public int erase() {
        int length = typed.length();
        typed.empty();
        return length;
    }

    public int uniform(int rank, int size) throws IllegalArgumentException, IllegalStateException {
        if (rank < 0 || rank > MOST_ELEMENTS || size < rank || size > MOST_ELEMENTS) {
            throw new IllegalArgumentException("no such rank or size");
        }
        needRoom();
        return keep(Tables.ofUniform(rank, size));
    }

    public int graph() throws UnsupportedOperationException, IllegalStateException {
        int length = typed.length();
        if (length % 2 != 0 || length > 2 * MOST_ELEMENTS || typed.greatest() >= VERTICES) {
            throw new UnsupportedOperationException("the row is no graph");
        }
        needRoom();
        return keepTyped(Tables.ofGraph(typed));
    }

    public int columns(int field, int rows)
            throws IllegalArgumentException, UnsupportedOperationException, IllegalStateException {
        if ((field != 2 && field != 3 && field != 5) || rows < 1 || rows > MOST_ROWS) {
            throw new IllegalArgumentException("no such field or number of rows");
        }
        int length = typed.length();
        if (length % rows != 0 || length > rows * MOST_ELEMENTS || typed.greatest() >= field) {
            throw new UnsupportedOperationException("the row is no columns");
        }
        needRoom();
        return keepTyped(Tables.ofColumns(typed, field, rows));
    }

    public int meeting(int size)
            throws IllegalArgumentException, UnsupportedOperationException, IllegalStateException {
        needSize(size);
        if (typed.length() > MOST_PLACES || typed.greatest() >= 1 << size) {
            throw new UnsupportedOperationException("the row is no places");
        }
        needRoom();
        return keepTyped(Tables.ofPlaces(typed, size));
    }

    public int bases(int size)
            throws IllegalArgumentException, UnsupportedOperationException, IllegalStateException {
        needSize(size);
        typedBases.begin(size);
        if (typed.greatest() >= 1 << size) {
            throw new UnsupportedOperationException("a set has other elements");
        }
        for (int index = 0; index < typed.length(); index++) {
            typedBases.mark(typed.at(index));
        }
        if (!typedBases.holds()) {
            throw new UnsupportedOperationException("the sets are no bases");
        }
        needRoom();
        return keepTyped(Tables.ofBases(typed, size));
    }

    public int broken(char what) throws IllegalArgumentException, NoSuchElementException {
        if (what != 'a' && what != 'b' && what != 'x') {
            throw new IllegalArgumentException("no such thing is told");
        }
        if (!typedBases.isBroken()) {
            throw new NoSuchElementException("nothing was broken");
        }
        if (what == 'a') {
            return typedBases.brokenFirst();
        }
        return what == 'b' ? typedBases.brokenSecond() : typedBases.brokenElement();
    }

    // ---- matroids that are made of others

    public int dual(int matroid) throws IndexOutOfBoundsException, IllegalStateException {
        Matroid whole = find(matroid);
        needRoom();
        return keep(Tables.ofDual(whole.ranks));
    }

    public int delete(int matroid, int element) throws IndexOutOfBoundsException, IllegalStateException {
        Matroid whole = find(matroid);
        needElement(whole, element);
        needRoom();
        return keep(Tables.ofPart(whole, element, false));
    }

    public int contract(int matroid, int element) throws IndexOutOfBoundsException, IllegalStateException {
        Matroid whole = find(matroid);
        needElement(whole, element);
        needRoom();
        return keep(Tables.ofPart(whole, element, true));
    }

    public int sum(int first, int second)
            throws IndexOutOfBoundsException, UnsupportedOperationException, IllegalStateException {
        Matroid low = find(first);
        Matroid high = find(second);
        if (low.elements + high.elements > MOST_ELEMENTS) {
            throw new UnsupportedOperationException("the sum would have more than 10 elements");
        }
        needRoom();
        return keep(Tables.ofSum(low, high));
    }

    public int union(int first, int second)
            throws IndexOutOfBoundsException, UnsupportedOperationException, IllegalStateException {
        Matroid one = find(first);
        Matroid another = find(second);
        needSameSize(one, another);
        needRoom();
        return keep(Tables.ofUnion(one, another));
    }

    public int truncate(int matroid)
            throws IndexOutOfBoundsException, UnsupportedOperationException, IllegalStateException {
        Matroid whole = find(matroid);
        needRank(whole);
        needRoom();
        return keep(Tables.ofTruncation(whole));
    }

    public int relax(int matroid, int set) throws IndexOutOfBoundsException, IllegalArgumentException,
            UnsupportedOperationException, IllegalStateException {
        Matroid whole = find(matroid);
        needSet(whole, set);
        if (!whole.isSort(set, CIRCUIT) || !whole.isSort(set, HYPERPLANE)) {
            throw new UnsupportedOperationException("the set is not a circuit and a hyperplane");
        }
        needRoom();
        return keep(Tables.ofRelaxation(whole, set));
    }

    public int extend(int matroid, int set) throws IndexOutOfBoundsException, IllegalArgumentException,
            UnsupportedOperationException, IllegalStateException {
        Matroid whole = find(matroid);
        needSet(whole, set);
        if (whole.elements >= MOST_ELEMENTS) {
            throw new UnsupportedOperationException("the matroid has 10 elements");
        }
        needRoom();
        return keep(Tables.ofExtension(whole, set));
    }

    // ---- the faces of a matroid

    public int size(int matroid) throws IndexOutOfBoundsException {
        return find(matroid).elements;
    }

    public int rank(int matroid, int set) throws IndexOutOfBoundsException, IllegalArgumentException {
        Matroid whole = find(matroid);
        needSet(whole, set);
        return whole.rankOf(set);
    }

    public int closure(int matroid, int set) throws IndexOutOfBoundsException, IllegalArgumentException {
        Matroid whole = find(matroid);
        needSet(whole, set);
        return whole.closureOf(set);
    }

    public int count(int matroid, char sort) throws IndexOutOfBoundsException, IllegalArgumentException {
        Matroid whole = find(matroid);
        return whole.countOf(sortNamed(sort));
    }

    public int setAt(int matroid, char sort, int index)
            throws IndexOutOfBoundsException, IllegalArgumentException, NoSuchElementException {
        Matroid whole = find(matroid);
        int set = whole.setOf(sortNamed(sort), index);
        if (set < 0) {
            throw new NoSuchElementException("there is no such set");
        }
        return set;
    }

    public int circuitWith(int matroid, int basis, int element)
            throws IndexOutOfBoundsException, UnsupportedOperationException, NoSuchElementException {
        Matroid whole = find(matroid);
        needElement(whole, element);
        if (!whole.isSort(basis, BASIS)) {
            throw new UnsupportedOperationException("the set is no basis");
        }
        if ((basis & 1 << element) != 0) {
            throw new NoSuchElementException("the element is in the basis");
        }
        return whole.circuitIn(basis, element);
    }

    public int component(int matroid, int element) throws IndexOutOfBoundsException {
        Matroid whole = find(matroid);
        needElement(whole, element);
        return whole.lowestWith(element);
    }

    // ---- isomorphisms and minors

    public boolean areAlike(int first, int second) throws IndexOutOfBoundsException {
        Matroid one = find(first);
        Matroid another = find(second);
        if (first != pairFirst || second != pairSecond) {
            pair.lookFor(another);
            pairIsAlike = pair.isAlike(one, 0, 0);
            pairFirst = first;
            pairSecond = second;
        }
        return pairIsAlike;
    }

    public int image(int first, int second, int element)
            throws IndexOutOfBoundsException, NoSuchElementException {
        Matroid one = find(first);
        find(second);
        needElement(one, element);
        if (!areAlike(first, second)) {
            throw new NoSuchElementException("there is no isomorphism");
        }
        return pair.imageOf(element);
    }

    public int symmetries(int matroid) throws IndexOutOfBoundsException {
        Matroid whole = find(matroid);
        if (whole.symmetries == 0) {
            whole.symmetries = inner.symmetriesOf(whole);
        }
        return whole.symmetries;
    }

    public int minorBy(int matroid, int minor) throws IndexOutOfBoundsException, NoSuchElementException {
        if (!minors.isMinor(find(matroid), find(minor))) {
            throw new NoSuchElementException("there is no such minor");
        }
        return minors.contracted();
    }

    public int minorWithout(int matroid, int minor) throws IndexOutOfBoundsException, NoSuchElementException {
        if (!minors.isMinor(find(matroid), find(minor))) {
            throw new NoSuchElementException("there is no such minor");
        }
        return minors.deleted();
    }

    // ---- drawings over fields

    public boolean canBeDrawn(int matroid, int field) throws IndexOutOfBoundsException, IllegalArgumentException {
        return drawingOf(find(matroid), field).isTrue();
    }

    public int entry(int matroid, int field, int row, int element)
            throws IndexOutOfBoundsException, IllegalArgumentException, NoSuchElementException {
        Matroid whole = find(matroid);
        needElement(whole, element);
        Drawing drawing = drawingOf(whole, field);
        if (row < 0 || row >= whole.fullRank || !drawing.isTrue()) {
            throw new NoSuchElementException("there is no such row, or no drawing");
        }
        return drawing.entryAt(row, element);
    }

    // ---- greedy bases, common independent sets, covers and packings

    public int greedy(int matroid) throws IndexOutOfBoundsException, UnsupportedOperationException {
        Matroid whole = find(matroid);
        if (typed.length() != whole.elements) {
            throw new UnsupportedOperationException("the row has not a weight for each element");
        }
        return Bounds.greedyBasis(whole, typed);
    }

    public int common(int first, int second) throws IndexOutOfBoundsException, UnsupportedOperationException {
        return Integer.bitCount(commonSet(first, second));
    }

    public int commonSet(int first, int second) throws IndexOutOfBoundsException, UnsupportedOperationException {
        Matroid one = find(first);
        Matroid another = find(second);
        needSameSize(one, another);
        return Bounds.greatestInBoth(one, another);
    }

    public int commonBound(int first, int second)
            throws IndexOutOfBoundsException, UnsupportedOperationException {
        Matroid one = find(first);
        Matroid another = find(second);
        needSameSize(one, another);
        return Bounds.leastForBoth(one, another);
    }

    public int cover(int matroid) throws IndexOutOfBoundsException, UnsupportedOperationException {
        Matroid whole = find(matroid);
        needNoLoop(whole);
        return Bounds.partsFor(whole, Bounds.hardestToCover(whole));
    }

    public int coverBound(int matroid)
            throws IndexOutOfBoundsException, UnsupportedOperationException, NoSuchElementException {
        Matroid whole = find(matroid);
        needNoLoop(whole);
        if (whole.elements == 0) {
            throw new NoSuchElementException("there is no set that is not empty");
        }
        return Bounds.hardestToCover(whole);
    }

    public int packing(int matroid) throws IndexOutOfBoundsException, UnsupportedOperationException {
        Matroid whole = find(matroid);
        needRank(whole);
        return Bounds.basesBeside(whole, Bounds.hardestToPack(whole));
    }

    public int packingBound(int matroid) throws IndexOutOfBoundsException, UnsupportedOperationException {
        Matroid whole = find(matroid);
        needRank(whole);
        return Bounds.hardestToPack(whole);
    }

    // ---- counting

    public int coefficient(int matroid, int x, int y) throws IndexOutOfBoundsException, IllegalArgumentException {
        Matroid whole = find(matroid);
        needPower(x);
        needPower(y);
        return Counting.coefficientOf(whole.shapes, x, y);
    }

    public long value(int matroid, int x, int y) throws IndexOutOfBoundsException, IllegalArgumentException {
        Matroid whole = find(matroid);
        if (x < -GREATEST_VALUE || x > GREATEST_VALUE || y < -GREATEST_VALUE || y > GREATEST_VALUE) {
            throw new IllegalArgumentException("x and y are -9 to 9");
        }
        return Counting.valueAt(whole.shapes, x, y);
    }

    public int other(int matroid, int power) throws IndexOutOfBoundsException, IllegalArgumentException {
        Matroid whole = find(matroid);
        needPower(power);
        return Counting.signedCount(whole.shapes, whole.fullRank, power);
    }

    public int matroids() {
        return made;
    }

    public float binaryShare() throws ArithmeticException {
        if (made <= 0) {
            throw new ArithmeticException("there are no matroids");
        }
        int binary = 0;
        for (int number = 0; number < made; number++) {
            if (drawingOf(find(number), 2).isTrue()) {
                binary++;
            }
        }
        return (float) binary / (float) made;
    }

    public double meanBases() throws ArithmeticException {
        if (made <= 0) {
            throw new ArithmeticException("there are no matroids");
        }
        int sum = 0;
        for (int number = 0; number < made; number++) {
            sum += find(number).countOf(BASIS);
        }
        return (double) sum / (double) made;
    }

    public boolean isSound() {
        for (int number = soundSoFar; number < made; number++) {
            Matroid whole = find(number);
            if (!keepsRuleOfBases(whole) || !isDualOfDual(whole) || !agreesWithPolynomial(whole)) {
                return false;
            }
            soundSoFar = number + 1;
        }
        return true;
    }

    // ---- what is asked before a call goes on

    private Matroid find(int number) {
        if (number < 0 || number >= MOST_MATROIDS || kept[number] == null) {
            throw new IndexOutOfBoundsException("there is no such matroid");
        }
        return kept[number];
    }

    private void needRoom() {
        if (made >= MOST_MATROIDS) {
            throw new IllegalStateException("there are 24 matroids");
        }
    }

    private static void needSize(int size) {
        if (size < 0 || size > MOST_ELEMENTS) {
            throw new IllegalArgumentException("a size is 0 to 10");
        }
    }

    private static void needElement(Matroid whole, int element) {
        if (element < 0 || element >= whole.elements) {
            throw new IndexOutOfBoundsException("there is no such element");
        }
    }

    private static void needSet(Matroid whole, int set) {
        if (set < 0 || set > whole.all) {
            throw new IllegalArgumentException("the set has other elements");
        }
    }

    private static void needSameSize(Matroid one, Matroid another) {
        if (one.elements != another.elements) {
            throw new UnsupportedOperationException("they have not as many elements");
        }
    }

    private static void needRank(Matroid whole) {
        if (whole.fullRank == 0) {
            throw new UnsupportedOperationException("the rank is 0");
        }
    }

    private static void needNoLoop(Matroid whole) {
        for (int element = 0; element < whole.elements; element++) {
            if (whole.rankOf(1 << element) == 0) {
                throw new UnsupportedOperationException("there is a loop");
            }
        }
    }

    private static void needPower(int power) {
        if (power < 0 || power > MOST_POWER) {
            throw new IllegalArgumentException("a power is 0 to 10");
        }
    }

    private static int sortNamed(char name) {
        switch (name) {
            case 'i':
                return INDEPENDENT;
            case 'b':
                return BASIS;
            case 'c':
                return CIRCUIT;
            case 'f':
                return FLAT;
            case 'h':
                return HYPERPLANE;
            default:
                throw new IllegalArgumentException("there is no such sort");
        }
    }

    private int keep(byte[] ranks) {
        int number = made;
        if (number >= 0 && number < kept.length) {
            kept[number] = new Matroid(ranks);
            made = number + 1;
        }
        return number;
    }

    private int keepTyped(byte[] ranks) {
        typed.empty();
        return keep(ranks);
    }

    private static Drawing drawingOf(Matroid whole, int field) {
        if (field != 2 && field != 3) {
            throw new IllegalArgumentException("there is no such field");
        }
        if (field == 2) {
            if (whole.overTwo == null) {
                whole.overTwo = new Drawing(whole, 2);
            }
            return whole.overTwo;
        }
        if (whole.overThree == null) {
            whole.overThree = new Drawing(whole, 3);
        }
        return whole.overThree;
    }

    private boolean keepsRuleOfBases(Matroid whole) {
        checkedBases.begin(whole.elements);
        for (int set = 0; set <= whole.all; set++) {
            if (whole.isSort(set, BASIS)) {
                checkedBases.mark(set);
            }
        }
        return checkedBases.holds();
    }

    private static boolean isDualOfDual(Matroid whole) {
        return Tables.areSame(whole.ranks, Tables.ofDual(Tables.ofDual(whole.ranks)));
    }

    private static boolean agreesWithPolynomial(Matroid whole) {
        return Counting.valueAt(whole.shapes, 1, 1) == whole.countOf(BASIS)
                && Counting.valueAt(whole.shapes, 2, 2) == whole.all + 1
                && Counting.valueAt(whole.shapes, 2, 1) == whole.countOf(INDEPENDENT);
    }

    /** The typed numbers of which the next matroid is made. */
    private static final class Row {

        private final int[] numbers = new int[MOST_TYPED];
        private int count;

        boolean isFull() {
            return count >= numbers.length;
        }

        void put(int number) {
            if (count >= 0 && count < numbers.length) {
                numbers[count] = number;
                count++;
            }
        }

        void empty() {
            count = 0;
        }

        int length() {
            return count;
        }

        int at(int index) {
            return index >= 0 && index < numbers.length ? numbers[index] : 0;
        }

        /** The greatest number, -1 in an empty row. */
        int greatest() {
            int greatest = -1;
            for (int index = 0; index < count; index++) {
                greatest = Math.max(greatest, at(index));
            }
            return greatest;
        }
    }

    /** A matroid, told by the ranks of all sets; what is worked out late is kept beside them. */
    private static final class Matroid {

        final int elements;
        final int all;
        final int fullRank;
        final byte[] ranks;
        final int[] shapes;
        private final byte[] sorts;
        int symmetries;
        Drawing overTwo;
        Drawing overThree;

        Matroid(byte[] ranks) {
            this.ranks = ranks;
            all = ranks.length - 1;
            elements = Integer.bitCount(all);
            fullRank = Tables.at(ranks, all);
            sorts = Tables.sortsOf(ranks);
            shapes = Counting.shapesOf(ranks);
        }

        int rankOf(int set) {
            return Tables.at(ranks, set);
        }

        boolean isSort(int set, int sort) {
            return set >= 0 && set < sorts.length && (sorts[set] & sort) != 0;
        }

        int countOf(int sort) {
            int count = 0;
            for (int set = 0; set < sorts.length; set++) {
                if ((sorts[set] & sort) != 0) {
                    count++;
                }
            }
            return count;
        }

        /** The set of a sort at an index, -1 if there is none. */
        int setOf(int sort, int index) {
            int left = index;
            for (int set = 0; set < sorts.length; set++) {
                if ((sorts[set] & sort) != 0) {
                    if (left == 0) {
                        return set;
                    }
                    left--;
                }
            }
            return -1;
        }

        int closureOf(int set) {
            int closure = set;
            for (int element = 0; element < elements; element++) {
                if (rankOf(set | 1 << element) == rankOf(set)) {
                    closure |= 1 << element;
                }
            }
            return closure;
        }

        int circuitIn(int basis, int element) {
            int circuit = 1 << element;
            for (int member = 0; member < elements; member++) {
                int without = basis & ~(1 << member);
                if (without != basis && isSort(without | 1 << element, BASIS)) {
                    circuit |= 1 << member;
                }
            }
            return circuit;
        }

        int lowestWith(int element) {
            int connected = 1 << element;
            for (int set = 0; set <= all; set++) {
                if ((set & 1 << element) != 0 && isSort(set, CIRCUIT)) {
                    connected |= set;
                }
            }
            return Integer.numberOfTrailingZeros(connected);
        }
    }

    /** Makes the ranks of all sets of a matroid that is given or made of others. */
    private static final class Tables {

        private static final int MARK = 1;

        static int at(byte[] table, int set) {
            return set >= 0 && set < table.length ? table[set] : 0;
        }

        static boolean areSame(byte[] one, byte[] another) {
            if (one.length != another.length) {
                return false;
            }
            for (int set = 0; set < one.length && set < another.length; set++) {
                if (one[set] != another[set]) {
                    return false;
                }
            }
            return true;
        }

        static byte[] blank(int elements) {
            return new byte[1 << Math.max(0, Math.min(MOST_ELEMENTS, elements))];
        }

        static byte[] ofUniform(int rank, int size) {
            byte[] ranks = blank(size);
            for (int set = 0; set < ranks.length; set++) {
                ranks[set] = (byte) Math.min(rank, Integer.bitCount(set));
            }
            return ranks;
        }

        /** Sets of edges without a ring are the independent columns that have a 1 for each end, over the field of 2. */
        static byte[] ofGraph(Row row) {
            int edges = row.length() / 2;
            Elimination elimination = new Elimination(2, VERTICES, edges);
            for (int edge = 0; edge < edges; edge++) {
                int end = row.at(2 * edge);
                int otherEnd = row.at(2 * edge + 1);
                if (end != otherEnd) {
                    elimination.put(edge, end, 1);
                    elimination.put(edge, otherEnd, 1);
                }
            }
            return elimination.ranks();
        }

        static byte[] ofColumns(Row row, int field, int rows) {
            if (rows <= 0) {
                return blank(0);
            }
            Elimination elimination = new Elimination(field, rows, row.length() / rows);
            for (int index = 0; index < row.length(); index++) {
                elimination.put(index / rows, index % rows, row.at(index));
            }
            return elimination.ranks();
        }

        static byte[] ofPlaces(Row row, int size) {
            byte[] table = blank(size);
            table[0] = MARK;
            for (int place = 0; place < row.length(); place++) {
                // Falling sets, so that no set is reached by two elements of this one place.
                for (int set = table.length - 1; set > 0; set--) {
                    if (canPlaceOneMore(table, set, row.at(place))) {
                        table[set] = MARK;
                    }
                }
            }
            return ranked(table);
        }

        private static boolean canPlaceOneMore(byte[] marks, int set, int place) {
            for (int bit = 1; bit <= set; bit <<= 1) {
                if ((set & place & bit) != 0 && at(marks, set ^ bit) != 0) {
                    return true;
                }
            }
            return false;
        }

        static byte[] ofBases(Row row, int size) {
            byte[] table = blank(size);
            for (int index = 0; index < row.length(); index++) {
                int basis = row.at(index);
                if (basis >= 0 && basis < table.length) {
                    table[basis] = MARK;
                }
            }
            for (int set = table.length - 1; set >= 0; set--) {
                for (int bit = 1; bit < table.length; bit <<= 1) {
                    if (at(table, set | bit) != 0) {
                        table[set] = MARK;
                    }
                }
            }
            return ranked(table);
        }

        /** Turns marks of the independent sets into the ranks of all sets, in the same array. */
        private static byte[] ranked(byte[] table) {
            for (int set = 0; set < table.length; set++) {
                int rank = 0;
                if (table[set] != 0) {
                    rank = Integer.bitCount(set);
                } else {
                    for (int bit = 1; bit <= set; bit <<= 1) {
                        rank = Math.max(rank, (set & bit) != 0 ? at(table, set ^ bit) : 0);
                    }
                }
                table[set] = (byte) rank;
            }
            return table;
        }

        static byte[] ofDual(byte[] ranks) {
            byte[] dual = new byte[ranks.length];
            int all = ranks.length - 1;
            for (int set = 0; set < dual.length; set++) {
                dual[set] = (byte) (Integer.bitCount(set) - at(ranks, all) + at(ranks, all & ~set));
            }
            return dual;
        }

        static byte[] ofPart(Matroid whole, int element, boolean isContracted) {
            byte[] ranks = blank(whole.elements - 1);
            int bit = 1 << element;
            int contracted = isContracted ? bit : 0;
            for (int set = 0; set < ranks.length; set++) {
                int before = set & (bit - 1);
                int old = before | (set & ~before) << 1;
                ranks[set] = (byte) (whole.rankOf(old | contracted) - whole.rankOf(contracted));
            }
            return ranks;
        }

        static byte[] ofSum(Matroid low, Matroid high) {
            byte[] ranks = blank(low.elements + high.elements);
            for (int set = 0; set < ranks.length; set++) {
                ranks[set] = (byte) (low.rankOf(set & low.all) + high.rankOf(set >> low.elements));
            }
            return ranks;
        }

        static byte[] ofUnion(Matroid one, Matroid another) {
            byte[] table = blank(one.elements);
            for (int set = 0; set < table.length; set++) {
                if (canBeParted(one, another, set)) {
                    table[set] = MARK;
                }
            }
            return ranked(table);
        }

        private static boolean canBeParted(Matroid one, Matroid another, int set) {
            for (int part = set; part > 0; part = (part - 1) & set) {
                if (one.isSort(part, INDEPENDENT) && another.isSort(set & ~part, INDEPENDENT)) {
                    return true;
                }
            }
            return another.isSort(set, INDEPENDENT);
        }

        static byte[] ofTruncation(Matroid whole) {
            byte[] ranks = blank(whole.elements);
            for (int set = 0; set < ranks.length; set++) {
                ranks[set] = (byte) Math.min(whole.rankOf(set), whole.fullRank - 1);
            }
            return ranks;
        }

        /** Sets greater than a hyperplane have the whole rank already, so just its own rank rises. */
        static byte[] ofRelaxation(Matroid whole, int relaxed) {
            byte[] ranks = blank(whole.elements);
            for (int set = 0; set < ranks.length; set++) {
                ranks[set] = (byte) (set == relaxed ? whole.fullRank : whole.rankOf(set));
            }
            return ranks;
        }

        static byte[] ofExtension(Matroid whole, int spanned) {
            byte[] ranks = blank(whole.elements + 1);
            for (int set = 0; set < ranks.length; set++) {
                int old = set & whole.all;
                int rank = whole.rankOf(old);
                if (set != old && whole.rankOf(old | spanned) != rank) {
                    rank++;
                }
                ranks[set] = (byte) rank;
            }
            return ranks;
        }

        static byte[] sortsOf(byte[] ranks) {
            byte[] sorts = new byte[ranks.length];
            for (int set = 0; set < sorts.length; set++) {
                sorts[set] = (byte) (sortsByNumber(ranks, set) | sortsByNeighbours(ranks, set));
            }
            return sorts;
        }

        private static int sortsByNumber(byte[] ranks, int set) {
            int number = Integer.bitCount(set);
            if (at(ranks, set) != number) {
                return 0;
            }
            return at(ranks, ranks.length - 1) == number ? INDEPENDENT | BASIS : INDEPENDENT;
        }

        private static int sortsByNeighbours(byte[] ranks, int set) {
            int rank = at(ranks, set);
            boolean isFlat = true;
            boolean isCircuit = rank == Integer.bitCount(set) - 1;
            for (int bit = 1; bit < ranks.length; bit <<= 1) {
                int neighbour = at(ranks, set ^ bit);
                if ((set & bit) == 0) {
                    isFlat &= neighbour > rank;
                } else {
                    isCircuit &= neighbour == rank;
                }
            }
            int sorts = isCircuit ? CIRCUIT : 0;
            if (isFlat) {
                sorts |= rank == at(ranks, ranks.length - 1) - 1 ? FLAT | HYPERPLANE : FLAT;
            }
            return sorts;
        }
    }

    /** Columns over a field, and the ranks of all sets of them. */
    private static final class Elimination {

        private final int field;
        private final int rows;
        private final int elements;
        private final int[][] columns;
        private final int[][] reduced;
        private final int[] pivots;

        Elimination(int field, int rows, int elements) {
            this.field = Math.max(2, field);
            this.rows = Math.max(0, Math.min(VERTICES, rows));
            this.elements = Math.max(0, Math.min(MOST_ELEMENTS, elements));
            columns = new int[this.elements][this.rows];
            reduced = new int[this.elements][this.rows];
            pivots = new int[this.elements];
        }

        void put(int element, int row, int entry) {
            if (element >= 0 && element < elements && row >= 0 && row < rows) {
                columns[element][row] = entry;
            }
        }

        int get(int element, int row) {
            boolean isThere = element >= 0 && element < elements && row >= 0 && row < rows;
            return isThere ? columns[element][row] : 0;
        }

        /**
         * By rising numbers a set comes behind the one without its lowest element, and all between them begin
         * with that one: so the reduced columns of the elements above the lowest one still stand, in order.
         */
        byte[] ranks() {
            byte[] ranks = Tables.blank(elements);
            for (int set = 1; set < ranks.length; set++) {
                int place = Integer.bitCount(set) - 1;
                reduce(Integer.numberOfTrailingZeros(set), place);
                int rank = Tables.at(ranks, set & (set - 1));
                ranks[set] = (byte) (pivotAt(place) >= 0 ? rank + 1 : rank);
            }
            return ranks;
        }

        private int pivotAt(int place) {
            return place >= 0 && place < pivots.length ? pivots[place] : -1;
        }

        private void reduce(int element, int place) {
            if (element >= columns.length || place < 0 || place >= reduced.length) {
                return;
            }
            int[] column = reduced[place];
            System.arraycopy(columns[element], 0, column, 0, rows);
            for (int before = 0; before < place; before++) {
                int pivot = pivotAt(before);
                if (pivot >= 0 && pivot < rows && column[pivot] != 0) {
                    addTimes(column, reduced[before], field - column[pivot]);
                }
            }
            int pivot = firstEntry(column);
            pivots[place] = pivot;
            if (pivot >= 0) {
                int inverse = inverseOf(column[pivot]);
                addTimes(column, column, inverse - 1);
            }
        }

        private int firstEntry(int[] column) {
            for (int row = 0; row < column.length; row++) {
                if (column[row] != 0) {
                    return row;
                }
            }
            return -1;
        }

        private void addTimes(int[] column, int[] added, int times) {
            for (int row = 0; row < column.length && row < added.length; row++) {
                column[row] = Math.floorMod(column[row] + times * added[row], field);
            }
        }

        private int inverseOf(int entry) {
            for (int inverse = 1; inverse < field; inverse++) {
                if (Math.floorMod(inverse * entry, field) == 1) {
                    return inverse;
                }
            }
            return 1;
        }
    }

    /** Looks at sets that may be bases, and keeps the first break of their rule. */
    private static final class Exchange {

        private final byte[] marks = new byte[MOST_SETS];
        private final byte[] spanning = new byte[MOST_SETS];
        private final int[] swaps = new int[MOST_ELEMENTS];
        private int all;
        private boolean isBroken;
        private int brokenFirst;
        private int brokenSecond;
        private int brokenElement;

        void begin(int elements) {
            all = (1 << Math.max(0, Math.min(MOST_ELEMENTS, elements))) - 1;
            Arrays.fill(marks, (byte) 0);
            isBroken = false;
        }

        void mark(int set) {
            if (set >= 0 && set <= all && set < marks.length) {
                marks[set] = 1;
            }
        }

        boolean isBroken() {
            return isBroken;
        }

        int brokenFirst() {
            return brokenFirst;
        }

        int brokenSecond() {
            return brokenSecond;
        }

        int brokenElement() {
            return brokenElement;
        }

        boolean holds() {
            if (!areOfOneNumber()) {
                return false;
            }
            findSpanning();
            for (int set = 0; set <= all; set++) {
                if (isMarked(set)) {
                    findSwaps(set);
                    if (!swapsMeetAllBases(set)) {
                        tellBreak(set);
                        return false;
                    }
                }
            }
            return true;
        }

        private boolean isMarked(int set) {
            return Tables.at(marks, set) != 0;
        }

        private boolean areOfOneNumber() {
            int number = -1;
            for (int set = 0; set <= all; set++) {
                if (isMarked(set)) {
                    if (number >= 0 && Integer.bitCount(set) != number) {
                        return false;
                    }
                    number = Integer.bitCount(set);
                }
            }
            return number >= 0;
        }

        /** A set spans here if a marked one is a part of it. */
        private void findSpanning() {
            for (int set = 0; set <= all && set < spanning.length; set++) {
                spanning[set] = marks[set];
                for (int bit = 1; bit <= set; bit <<= 1) {
                    if ((set & bit) != 0 && Tables.at(spanning, set ^ bit) != 0) {
                        spanning[set] = 1;
                    }
                }
            }
        }

        /** For each element of a set, all with which instead of it the set is marked, and itself. */
        private void findSwaps(int set) {
            for (int element = 0; element < swaps.length; element++) {
                int without = set & ~(1 << element);
                int swap = 0;
                for (int bit = 1; bit <= all && without != set; bit <<= 1) {
                    if ((without & bit) == 0 && isMarked(without | bit)) {
                        swap |= bit;
                    }
                }
                swaps[element] = swap;
            }
        }

        /** The rule is broken for an element just if a basis has none of its swaps, so a basis among the rest tells. */
        private boolean swapsMeetAllBases(int set) {
            for (int element = 0; element < swaps.length; element++) {
                if ((set & 1 << element) != 0 && Tables.at(spanning, all & ~swaps[element]) != 0) {
                    return false;
                }
            }
            return true;
        }

        private void tellBreak(int first) {
            for (int second = 0; second <= all; second++) {
                for (int element = 0; element < swaps.length && isMarked(second); element++) {
                    if ((first & ~second & 1 << element) != 0 && (swaps[element] & second) == 0) {
                        isBroken = true;
                        brokenFirst = first;
                        brokenSecond = second;
                        brokenElement = element;
                        return;
                    }
                }
            }
        }
    }

    /**
     * Looks for isomorphisms from a part of a matroid to another matroid. It compares, for sets of elements that
     * have images, in how many bases they are: this parts wrong images early, and for all sets it is the whole truth.
     * A profile of each element, a sum over all sets with it, keeps the search from going far without hope.
     */
    private static final class Likeness {

        private final int[] sets = new int[MOST_SETS];
        private final int[] counts = new int[MOST_SETS];
        private final int[] wanted = new int[MOST_SETS];
        private final int[] images = new int[MOST_SETS];
        private final int[] profiles = new int[MOST_ELEMENTS];
        private final int[] wantedProfiles = new int[MOST_ELEMENTS];
        private int elements;
        private int number;

        void lookFor(Matroid matroid) {
            elements = matroid.elements;
            number = Math.min(matroid.all + 1, MOST_SETS);
            for (int set = 0; set < number; set++) {
                wanted[set] = matroid.isSort(set, BASIS) ? 1 : 0;
            }
            sumOverGreater(wanted);
            fillProfiles(wanted, wantedProfiles);
        }

        /** Whether the matroid with some elements contracted, and others deleted, is like the one looked for. */
        boolean isAlike(Matroid whole, int contracted, int deleted) {
            if (!spread(whole, contracted, deleted) || !hasAsManyBases(whole)) {
                return false;
            }
            sumOverGreater(counts);
            fillProfiles(counts, profiles);
            return hasSameProfiles() && place(this, 0, 0);
        }

        int imageOf(int element) {
            return Integer.numberOfTrailingZeros(at(images, 1 << element));
        }

        /** As many as the product of how many images each element has when those before it stay. */
        int symmetriesOf(Matroid matroid) {
            lookFor(matroid);
            System.arraycopy(wanted, 0, counts, 0, number);
            System.arraycopy(wantedProfiles, 0, profiles, 0, elements);
            images[0] = 0;
            int product = 1;
            for (int element = 0; element < elements; element++) {
                product *= countImages(element);
                putImage(element, element);
            }
            return product;
        }

        private int countImages(int element) {
            int count = 1;
            int fixed = (1 << element) - 1;
            for (int image = element + 1; image < elements; image++) {
                if (fits(element, image)) {
                    putImage(element, image);
                    if (place(this, element + 1, fixed | 1 << image)) {
                        count++;
                    }
                }
            }
            return count;
        }

        /** Lists the sets of the elements that are left, numbered in their order, each with the contracted ones. */
        private boolean spread(Matroid whole, int contracted, int deleted) {
            int left = whole.all & ~contracted & ~deleted;
            if (Integer.bitCount(left) != elements) {
                return false;
            }
            int listed = 1;
            sets[0] = contracted;
            for (int bit = 1; bit <= whole.all; bit <<= 1) {
                if ((left & bit) != 0) {
                    for (int set = 0; set < listed && listed + set < sets.length; set++) {
                        sets[listed + set] = sets[set] | bit;
                    }
                    listed <<= 1;
                }
            }
            return true;
        }

        private boolean hasAsManyBases(Matroid whole) {
            int bases = 0;
            for (int set = 0; set < number && set < sets.length; set++) {
                int mark = whole.isSort(sets[set], BASIS) ? 1 : 0;
                counts[set] = mark;
                bases += mark;
            }
            return bases == wanted[0];
        }

        private void sumOverGreater(int[] table) {
            for (int bit = 1; bit < number; bit <<= 1) {
                for (int set = 0; set < number && set < table.length; set++) {
                    if ((set & bit) == 0) {
                        table[set] += at(table, set | bit);
                    }
                }
            }
        }

        private static int at(int[] table, int set) {
            return set >= 0 && set < table.length ? table[set] : 0;
        }

        /** Powers, as sums of the counts themselves are alike too often; that they wrap round does no harm. */
        private void fillProfiles(int[] table, int[] filled) {
            Arrays.fill(filled, 0);
            for (int set = 0; set < number && set < table.length; set++) {
                int base = table[set] * 4099 + Integer.bitCount(set);
                int term = base * base * base + base;
                for (int element = 0; element < elements && element < filled.length; element++) {
                    if ((set & 1 << element) != 0) {
                        filled[element] += term;
                    }
                }
            }
        }

        private boolean hasSameProfiles() {
            for (int element = 0; element < elements && element < profiles.length; element++) {
                int difference = 0;
                for (int other = 0; other < elements && other < profiles.length; other++) {
                    difference += profiles[other] == profiles[element] ? 1 : 0;
                    difference -= wantedProfiles[other] == profiles[element] ? 1 : 0;
                }
                if (difference != 0) {
                    return false;
                }
            }
            return true;
        }

        private boolean fits(int element, int image) {
            if (element >= profiles.length || image >= wantedProfiles.length
                    || profiles[element] != wantedProfiles[image]) {
                return false;
            }
            int bit = 1 << element;
            for (int set = 0; set < bit && set + bit < counts.length; set++) {
                int mapped = images[set] | 1 << image;
                if (mapped >= wanted.length || counts[set + bit] != wanted[mapped]) {
                    return false;
                }
            }
            return true;
        }

        private void putImage(int element, int image) {
            int bit = 1 << element;
            for (int set = 0; set < bit && set + bit < images.length; set++) {
                images[set + bit] = images[set] | 1 << image;
            }
        }

        /** Gives images to this element and those behind it, the least ones first; as deep as there are elements. */
        private static boolean place(Likeness work, int element, int used) {
            if (element >= work.elements || element >= MOST_ELEMENTS) {
                return true;
            }
            for (int image = 0; image < work.elements; image++) {
                if ((used & 1 << image) == 0 && work.fits(element, image)) {
                    work.putImage(element, image);
                    if (place(work, element + 1, used | 1 << image)) {
                        return true;
                    }
                }
            }
            return false;
        }
    }

    /** Looks for a matroid as a minor of another one, and keeps what it found last. */
    private static final class Minors {

        private final Likeness likeness;
        private final int[] deletions = new int[MOST_SETS];
        private int listed;
        private Matroid lastWhole;
        private Matroid lastPart;
        private boolean isFound;
        private int contracted;
        private int deleted;

        Minors(Likeness likeness) {
            this.likeness = likeness;
        }

        int contracted() {
            return contracted;
        }

        int deleted() {
            return deleted;
        }

        boolean isMinor(Matroid whole, Matroid part) {
            if (lastWhole != whole || lastPart != part) {
                isFound = search(whole, part);
                lastWhole = whole;
                lastPart = part;
            }
            return isFound;
        }

        /** Contracting an independent set takes its number from the rank, so both numbers are known before. */
        private boolean search(Matroid whole, Matroid part) {
            int lessRank = whole.fullRank - part.fullRank;
            int lessElements = whole.elements - part.elements - lessRank;
            if (lessRank < 0 || lessElements < 0) {
                return false;
            }
            likeness.lookFor(part);
            listDeletions(whole, lessElements);
            for (int set = 0; set <= whole.all; set++) {
                boolean canBe = Integer.bitCount(set) == lessRank && whole.isSort(set, INDEPENDENT);
                if (canBe && findDeletion(whole, set)) {
                    contracted = set;
                    return true;
                }
            }
            return false;
        }

        private void listDeletions(Matroid whole, int number) {
            listed = 0;
            for (int set = 0; set <= whole.all && listed < deletions.length; set++) {
                if (Integer.bitCount(set) == number && whole.rankOf(whole.all & ~set) == whole.fullRank) {
                    deletions[listed] = set;
                    listed++;
                }
            }
        }

        private boolean findDeletion(Matroid whole, int with) {
            for (int index = 0; index < listed && index < deletions.length; index++) {
                int without = deletions[index];
                if ((with & without) == 0 && likeness.isAlike(whole, with, without)) {
                    deleted = without;
                    return true;
                }
            }
            return false;
        }
    }

    /**
     * The drawing of a matroid over the field of 2 or 3, if there is one. Which entries are 0 is told by exchanges
     * with the first basis. Over the field of 3 entries that close no ring (of rows and columns, joined by entries)
     * can be 1 by the choice of signs, so they are in the least drawing; those that close a ring have no choice.
     */
    private static final class Drawing {

        private static final int FAR = 99;

        private final Matroid matroid;
        private final int basis;
        private final int[] joined = new int[MOST_ELEMENTS];
        private final int[] known = new int[MOST_ELEMENTS];
        private final int[] before = new int[MOST_ELEMENTS];
        private final int[] minus = new int[MOST_ELEMENTS];
        private final Elimination columns;
        private final boolean isTrue;

        Drawing(Matroid matroid, int field) {
            this.matroid = matroid;
            basis = Math.max(0, matroid.setOf(BASIS, 0));
            columns = new Elimination(field, matroid.fullRank, matroid.elements);
            join();
            if (field == 3) {
                setFreeSigns();
                setBoundSigns();
            }
            fillColumns();
            isTrue = Tables.areSame(columns.ranks(), matroid.ranks);
        }

        boolean isTrue() {
            return isTrue;
        }

        int entryAt(int row, int element) {
            return columns.get(element, row);
        }

        private static int at(int[] table, int element) {
            return element >= 0 && element < table.length ? table[element] : 0;
        }

        private static boolean has(int set, int element) {
            return (set & 1 << element) != 0;
        }

        /** A row goes by the name of its element of the basis. */
        private void join() {
            for (int element = 0; element < matroid.elements && element < joined.length; element++) {
                if (!has(basis, element)) {
                    joined[element] = matroid.circuitIn(basis, element) & ~(1 << element);
                    for (int row = 0; row < joined.length; row++) {
                        if (has(joined[element], row)) {
                            joined[row] |= 1 << element;
                        }
                    }
                }
            }
        }

        private void setFreeSigns() {
            for (int element = 0; element < matroid.elements; element++) {
                for (int row = 0; row < matroid.elements; row++) {
                    if (isEntry(element, row) && walk(element, row) >= FAR) {
                        learn(element, row, false);
                    }
                }
            }
        }

        private boolean isEntry(int element, int row) {
            return !has(basis, element) && has(at(joined, element), row);
        }

        private void learn(int element, int row, boolean isMinus) {
            if (element < 0 || element >= known.length || row < 0 || row >= known.length) {
                return;
            }
            known[element] |= 1 << row;
            known[row] |= 1 << element;
            if (isMinus) {
                minus[element] |= 1 << row;
                minus[row] |= 1 << element;
            }
        }

        /** The shortest ring that an entry closes has no other entry across it, so its sign is told by one exchange. */
        private void setBoundSigns() {
            for (int round = 0; round < MOST_ELEMENTS * MOST_ELEMENTS; round++) {
                int shortest = FAR;
                int bestElement = -1;
                int bestRow = -1;
                for (int pair = 0; pair < MOST_ELEMENTS * MOST_ELEMENTS; pair++) {
                    int element = pair / MOST_ELEMENTS;
                    int row = pair % MOST_ELEMENTS;
                    if (isEntry(element, row) && !has(at(known, element), row)) {
                        int length = walk(element, row);
                        if (length < shortest) {
                            shortest = length;
                            bestElement = element;
                            bestRow = row;
                        }
                    }
                }
                if (bestElement < 0) {
                    return;
                }
                closeRing(bestElement, bestRow);
            }
        }

        /** How many known entries lead from an element to a row, FAR if none do; keeps the way. */
        private int walk(int from, int to) {
            int reached = 1 << from;
            int front = reached;
            for (int length = 1; length <= MOST_ELEMENTS; length++) {
                int next = 0;
                for (int element = 0; element < MOST_ELEMENTS; element++) {
                    if (has(front, element)) {
                        int fresh = at(known, element) & ~reached;
                        reached |= fresh;
                        next |= fresh;
                        keepWay(fresh, element);
                    }
                }
                if (has(next, to)) {
                    return length;
                }
                front = next;
            }
            return FAR;
        }

        private void keepWay(int fresh, int element) {
            for (int reached = 0; reached < before.length; reached++) {
                if ((fresh & 1 << reached) != 0) {
                    before[reached] = element;
                }
            }
        }

        /**
         * The part with the ring's rows and columns has just two products in its determinant, of the same sign or of
         * other signs; it is 0 if the basis with these columns instead of these rows is none.
         */
        private void closeRing(int element, int row) {
            walk(element, row);
            int ring = 1 << row;
            boolean isMinus = false;
            int there = row;
            for (int step = 0; step < MOST_ELEMENTS && there != element; step++) {
                int previous = at(before, there);
                isMinus ^= has(at(minus, there), previous);
                ring |= 1 << previous;
                there = previous;
            }
            boolean isOdd = Integer.bitCount(ring & basis) % 2 != 0;
            boolean isZero = !matroid.isSort(basis ^ ring, BASIS);
            learn(element, row, isMinus ^ isOdd ^ !isZero);
        }

        private void fillColumns() {
            int row = 0;
            for (int named = 0; named < matroid.elements; named++) {
                if (has(basis, named)) {
                    columns.put(named, row, 1);
                    for (int element = 0; element < matroid.elements; element++) {
                        if (isEntry(element, named)) {
                            columns.put(element, row, has(at(minus, element), named) ? 2 : 1);
                        }
                    }
                    row++;
                }
            }
        }
    }

    /** Sets that are greatest, or that show that nothing is greater. */
    private static final class Bounds {

        static int greedyBasis(Matroid whole, Row weights) {
            int basis = 0;
            int seen = 0;
            for (int step = 0; step < whole.elements; step++) {
                int heaviest = -1;
                for (int element = 0; element < whole.elements; element++) {
                    boolean isNew = (seen & 1 << element) == 0;
                    if (isNew && (heaviest < 0 || weights.at(element) > weights.at(heaviest))) {
                        heaviest = element;
                    }
                }
                int bit = heaviest < 0 ? 0 : 1 << heaviest;
                seen |= bit;
                if (whole.isSort(basis | bit, INDEPENDENT)) {
                    basis |= bit;
                }
            }
            return basis;
        }

        static int greatestInBoth(Matroid one, Matroid another) {
            int greatest = 0;
            for (int set = 0; set <= one.all; set++) {
                if (Integer.bitCount(set) > Integer.bitCount(greatest)
                        && one.isSort(set, INDEPENDENT) && another.isSort(set, INDEPENDENT)) {
                    greatest = set;
                }
            }
            return greatest;
        }

        static int leastForBoth(Matroid one, Matroid another) {
            int least = 0;
            int leastRanks = another.fullRank;
            for (int set = 0; set <= one.all; set++) {
                int ranks = one.rankOf(set) + another.rankOf(another.all & ~set);
                if (ranks < leastRanks) {
                    least = set;
                    leastRanks = ranks;
                }
            }
            return least;
        }

        /** The first set that needs most independent sets, the empty one without elements. */
        static int hardestToCover(Matroid whole) {
            int hardest = 0;
            int most = 0;
            for (int set = 1; set <= whole.all; set++) {
                int parts = partsFor(whole, set);
                if (parts > most) {
                    hardest = set;
                    most = parts;
                }
            }
            return hardest;
        }

        static int partsFor(Matroid whole, int set) {
            int rank = whole.rankOf(set);
            return rank <= 0 ? 0 : (Integer.bitCount(set) + rank - 1) / rank;
        }

        /** The first set beside which fewest bases have room; the empty one lacks the rank, if there is any. */
        static int hardestToPack(Matroid whole) {
            int hardest = 0;
            int fewest = basesBeside(whole, 0);
            for (int set = 1; set <= whole.all; set++) {
                if (whole.rankOf(set) < whole.fullRank) {
                    int bases = basesBeside(whole, set);
                    if (bases < fewest) {
                        hardest = set;
                        fewest = bases;
                    }
                }
            }
            return hardest;
        }

        static int basesBeside(Matroid whole, int set) {
            int lack = whole.fullRank - whole.rankOf(set);
            return lack <= 0 ? 0 : (whole.elements - Integer.bitCount(set)) / lack;
        }
    }

    /** Counts by the polynomial, kept as how many sets lack so much of the rank and have so many elements too many. */
    private static final class Counting {

        private static final int POWERS = MOST_POWER + 1;

        static int[] shapesOf(byte[] ranks) {
            int[] shapes = new int[POWERS * POWERS];
            int full = Tables.at(ranks, ranks.length - 1);
            for (int set = 0; set < ranks.length; set++) {
                int shape = shapeAt(full - ranks[set], Integer.bitCount(set) - ranks[set]);
                if (shape >= 0 && shape < shapes.length) {
                    shapes[shape]++;
                }
            }
            return shapes;
        }

        private static int shapeAt(int lack, int excess) {
            return lack * POWERS + excess;
        }

        private static int countAt(int[] shapes, int lack, int excess) {
            int shape = shapeAt(lack, excess);
            return shape >= 0 && shape < shapes.length ? shapes[shape] : 0;
        }

        static int coefficientOf(int[] shapes, int x, int y) {
            int sum = 0;
            for (int lack = x; lack <= MOST_POWER; lack++) {
                for (int excess = y; excess <= MOST_POWER; excess++) {
                    int count = countAt(shapes, lack, excess);
                    if (count != 0) {
                        sum += count * partOfPower(lack, x) * partOfPower(excess, y);
                    }
                }
            }
            return sum;
        }

        /** The coefficient of a power of x in a power of (x - 1). */
        private static int partOfPower(int power, int part) {
            int ways = 1;
            for (int step = 1; step <= power - part; step++) {
                ways = ways * (part + step) / step;
            }
            return (power - part) % 2 == 0 ? ways : -ways;
        }

        static long valueAt(int[] shapes, int x, int y) {
            long sum = 0;
            long lackPower = 1;
            for (int lack = 0; lack <= MOST_POWER; lack++) {
                long excessPower = lackPower;
                for (int excess = 0; excess <= MOST_POWER; excess++) {
                    // A power too great for a long is multiplied by 0, as lack and excess are 10 together at most.
                    sum += countAt(shapes, lack, excess) * excessPower;
                    excessPower *= y - 1;
                }
                lackPower *= x - 1;
            }
            return sum;
        }

        static int signedCount(int[] shapes, int fullRank, int lack) {
            int sum = 0;
            for (int excess = 0; excess <= MOST_POWER; excess++) {
                int count = countAt(shapes, lack, excess);
                boolean isOdd = (fullRank - lack + excess) % 2 != 0;
                sum += isOdd ? -count : count;
            }
            return sum;
        }
    }
}
