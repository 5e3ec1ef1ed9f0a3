import java.util.NoSuchElementException;

/** For each promise ordinary inputs, the edges that the document names, and wrong inputs. */
public final class PromisesTest {

    private static final Class<IllegalArgumentException> ARGUMENT = IllegalArgumentException.class;
    private static final Class<IllegalStateException> STATE = IllegalStateException.class;
    private static final Class<IndexOutOfBoundsException> INDEX = IndexOutOfBoundsException.class;
    private static final Class<UnsupportedOperationException> UNSUPPORTED = UnsupportedOperationException.class;
    private static final Class<NoSuchElementException> NONE = NoSuchElementException.class;
    private static final Class<ArithmeticException> ARITHMETIC = ArithmeticException.class;

    private static final int[] FANO = {1, 0, 0, 0, 1, 0, 1, 1, 0, 0, 0, 1, 1, 0, 1, 0, 1, 1, 1, 1, 1};

    private final Due due = new Due();

    public static void main(String[] args) {
        new PromisesTest().all();
    }

    private void all() {
        newObject();
        type();
        erase();
        uniform();
        graph();
        columns();
        meeting();
        bases();
        broken();
        dual();
        delete();
        contract();
        sum();
        union();
        truncate();
        relax();
        extend();
        size();
        rank();
        closure();
        count();
        setAt();
        circuitWith();
        component();
        areAlike();
        image();
        symmetries();
        minors();
        drawings();
        entryOrder();
        greedy();
        commonSets();
        covers();
        packings();
        coefficient();
        value();
        other();
        matroids();
        shares();
        isSound();
        due.end("PromisesTest");
    }

    // ---- helpers

    private static Circuitfold typed(Circuitfold house, int... numbers) {
        house.erase();
        for (int number : numbers) {
            house.type(number);
        }
        return house;
    }

    /** A triangle of 0, 1 and 2, and an edge 3 beside it. */
    private static int triangle(Circuitfold house) {
        return typed(house, 0, 1, 1, 2, 2, 0, 2, 3).graph();
    }

    private static int completeGraph(Circuitfold house, int vertices) {
        house.erase();
        for (int u = 0; u < vertices; u++) {
            for (int v = u + 1; v < vertices; v++) {
                house.type(u);
                house.type(v);
            }
        }
        return house.graph();
    }

    private static int fano(Circuitfold house) {
        return typed(house, FANO).columns(2, 3);
    }

    private static Circuitfold full() {
        Circuitfold house = new Circuitfold();
        for (int i = 0; i < 24; i++) {
            house.uniform(1, 2);
        }
        return house;
    }

    private static String list(Circuitfold house, int matroid, char sort) {
        StringBuilder text = new StringBuilder();
        for (int i = 0; i < house.count(matroid, sort); i++) {
            text.append(i == 0 ? "" : " ").append(house.setAt(matroid, sort, i));
        }
        return text.toString();
    }

    private static String drawing(Circuitfold house, int matroid, int field) {
        StringBuilder text = new StringBuilder();
        int all = (1 << house.size(matroid)) - 1;
        for (int element = 0; element < house.size(matroid); element++) {
            text.append(element == 0 ? "" : " ");
            for (int row = 0; row < house.rank(matroid, all); row++) {
                text.append(house.entry(matroid, field, row, element));
            }
        }
        return text.toString();
    }

    // ---- promises 1 to 9

    private void newObject() {
        due.about("promise 1");
        Circuitfold house = new Circuitfold();
        due.is(0, house.matroids());
        due.is(0, house.erase());
        due.fails(INDEX, () -> house.size(0));
        due.fails(NONE, () -> house.broken('a'));
        due.is(true, house.isSound());
    }

    private void type() {
        due.about("promise 2");
        Circuitfold house = new Circuitfold();
        due.is(1, house.type(0));
        due.is(2, house.type(1023));
        due.fails(ARGUMENT, () -> house.type(-1));
        due.fails(ARGUMENT, () -> house.type(1024));
        due.fails(ARGUMENT, () -> house.type(Integer.MIN_VALUE));
        due.fails(ARGUMENT, () -> house.type(Integer.MAX_VALUE));
        for (int i = 3; i <= 60; i++) {
            due.is(i, house.type(i));
        }
        due.fails(STATE, () -> house.type(5));
        due.fails(ARGUMENT, () -> house.type(1024));
        due.is(60, house.erase());
    }

    private void erase() {
        due.about("promise 3");
        Circuitfold house = typed(new Circuitfold(), 7, 7, 7);
        due.is(3, house.erase());
        due.is(0, house.erase());
        due.is(1, house.type(7));
        house.uniform(1, 1);
        due.is(1, house.erase());
    }

    private void uniform() {
        due.about("promise 4");
        Circuitfold house = new Circuitfold();
        due.is(0, house.uniform(2, 4));
        due.is("3 5 6 9 10 12", list(house, 0, 'b'));
        due.is(1, house.uniform(0, 0));
        due.is("0", list(house, 1, 'b'));
        due.is(2, house.uniform(10, 10));
        due.is(1024, house.count(2, 'i'));
        due.is(3, house.uniform(0, 3));
        due.is("1 2 4", list(house, 3, 'c'));
        due.fails(ARGUMENT, () -> house.uniform(-1, 4));
        due.fails(ARGUMENT, () -> house.uniform(11, 11));
        due.fails(ARGUMENT, () -> house.uniform(1, 11));
        due.fails(ARGUMENT, () -> house.uniform(3, 2));
        due.fails(ARGUMENT, () -> house.uniform(0, -1));
        due.is(4, house.matroids());
        Circuitfold full = full();
        due.fails(STATE, () -> full.uniform(1, 2));
        due.fails(ARGUMENT, () -> full.uniform(3, 2));
    }

    private void graph() {
        due.about("promise 5");
        Circuitfold house = new Circuitfold();
        due.is(0, triangle(house));
        due.is(0, house.erase());
        due.is("11 13 14", list(house, 0, 'b'));
        due.is(1, house.graph());
        due.is(0, house.size(1));
        due.is(2, typed(house, 4, 4, 1, 2, 2, 1).graph());
        due.is("1 6", list(house, 2, 'c'));
        due.is(3, typed(house, 9, 8, 8, 7, 7, 6, 6, 5, 5, 4, 4, 3, 3, 2, 2, 1, 1, 0, 0, 9).graph());
        due.is("1023", list(house, 3, 'c'));
        due.fails(UNSUPPORTED, typed(house, 1)::graph);
        due.fails(UNSUPPORTED, typed(house, 1, 10)::graph);
        due.is(2, house.erase());
        due.fails(UNSUPPORTED, typed(house, new int[22])::graph);
        due.is(22, house.erase());
        due.is(4, typed(house, new int[20]).graph());
        due.is(0, house.rank(4, 1023));
        due.fails(UNSUPPORTED, typed(full(), 1)::graph);
        Circuitfold full = typed(full(), 1, 2);
        due.fails(STATE, full::graph);
        due.is(2, full.erase());
    }

    private void columns() {
        due.about("promise 6");
        Circuitfold house = new Circuitfold();
        due.is(0, fano(house));
        due.is(0, house.erase());
        due.is(28, house.count(0, 'b'));
        due.is(1, typed(house, 1, 0, 0, 1, 1, 1, 1, 2, 1, 3, 1, 4).columns(5, 2));
        due.is(15, house.count(1, 'b'));
        due.is(2, typed(house, 1, 0, 0, 1, 1, 1, 1, 2, 2, 1).columns(3, 2));
        due.is(9, house.count(2, 'b'));
        due.is(3, house.columns(2, 6));
        due.is(0, house.size(3));
        due.is(4, typed(house, 2, 4, 3, 1, 4, 2).columns(5, 2));
        due.is("5 6", list(house, 4, 'b'));
        for (int field : new int[] {-2, 0, 1, 4, 6, 7}) {
            due.fails(ARGUMENT, () -> house.columns(field, 2));
        }
        due.fails(ARGUMENT, () -> house.columns(2, 0));
        due.fails(ARGUMENT, () -> house.columns(2, -1));
        due.fails(ARGUMENT, () -> house.columns(2, 7));
        due.fails(UNSUPPORTED, () -> typed(house, 1, 1, 1).columns(2, 2));
        due.fails(UNSUPPORTED, () -> typed(house, 1, 2).columns(2, 2));
        due.fails(UNSUPPORTED, () -> typed(house, 1, 3).columns(3, 2));
        due.fails(UNSUPPORTED, () -> typed(house, 5, 3).columns(5, 2));
        due.fails(UNSUPPORTED, () -> typed(house, new int[11]).columns(2, 1));
        due.is(11, house.erase());
        due.is(5, typed(house, new int[60]).columns(2, 6));
        due.is(10, house.size(5));
        Circuitfold full = typed(full(), 1, 0);
        due.fails(STATE, () -> full.columns(2, 2));
        due.is(2, full.erase());
        due.fails(UNSUPPORTED, () -> typed(full, 1, 2).columns(2, 2));
        due.fails(ARGUMENT, () -> full.columns(4, 2));
    }

    private void meeting() {
        due.about("promise 7");
        Circuitfold house = new Circuitfold();
        due.is(0, typed(house, 3, 6, 12).meeting(4));
        due.is(0, house.erase());
        due.is("7 11 13 14", list(house, 0, 'b'));
        due.is(1, typed(house, 3, 3).meeting(3));
        due.is("3", list(house, 1, 'b'));
        due.is(2, house.meeting(3));
        due.is("0", list(house, 2, 'b'));
        due.is(3, typed(house, 0, 0).meeting(0));
        due.is(0, house.size(3));
        due.is(4, typed(house, 1023, 1023, 1023, 1023, 1023, 1023, 1023, 1023, 1023, 1023).meeting(10));
        due.is(10, house.rank(4, 1023));
        due.is(5, typed(house, 7, 1, 1).meeting(3));
        due.is("3 5", list(house, 5, 'b'));
        due.fails(ARGUMENT, () -> house.meeting(-1));
        due.fails(ARGUMENT, () -> house.meeting(11));
        due.fails(UNSUPPORTED, () -> typed(house, 8).meeting(3));
        due.fails(UNSUPPORTED, () -> typed(house, 1).meeting(0));
        due.fails(UNSUPPORTED, () -> typed(house, new int[11]).meeting(3));
        due.is(11, house.erase());
        Circuitfold full = typed(full(), 1);
        due.fails(STATE, () -> full.meeting(1));
        due.is(1, full.erase());
        due.fails(UNSUPPORTED, () -> typed(full, 2).meeting(1));
        due.fails(ARGUMENT, () -> full.meeting(11));
    }

    private void bases() {
        due.about("promise 8");
        Circuitfold house = new Circuitfold();
        due.is(0, typed(house, 6, 3, 5, 3).bases(4));
        due.is(0, house.erase());
        due.is("3 5 6", list(house, 0, 'b'));
        due.is("7 8", list(house, 0, 'c'));
        due.is(1, typed(house, 0, 0).bases(0));
        due.is(0, house.size(1));
        due.is(2, typed(house, 1023).bases(10));
        due.is(1024, house.count(2, 'i'));
        due.fails(ARGUMENT, () -> house.bases(-1));
        due.fails(ARGUMENT, () -> house.bases(11));
        due.fails(UNSUPPORTED, () -> house.bases(3));
        due.fails(UNSUPPORTED, () -> typed(house, 8).bases(3));
        due.fails(UNSUPPORTED, () -> typed(house, 3, 1).bases(3));
        due.fails(UNSUPPORTED, () -> typed(house, 3, 12).bases(4));
        due.is(2, house.erase());
        due.is(3, house.matroids());
        Circuitfold full = typed(full(), 1, 2);
        due.fails(STATE, () -> full.bases(2));
        due.is(2, full.erase());
        due.fails(UNSUPPORTED, () -> typed(full, 3, 1).bases(2));
        due.fails(ARGUMENT, () -> full.bases(11));
    }

    private static String told(Circuitfold house) {
        return house.broken('a') + " " + house.broken('b') + " " + house.broken('x');
    }

    private void broken() {
        due.about("promise 9");
        Circuitfold house = new Circuitfold();
        due.fails(NONE, () -> house.broken('b'));
        due.fails(UNSUPPORTED, () -> typed(house, 12, 3, 12, 10).bases(4));
        due.is("3 12 1", told(house));
        due.fails(ARGUMENT, () -> house.broken('c'));
        due.fails(ARGUMENT, () -> house.broken('A'));
        due.fails(ARGUMENT, () -> house.bases(11));
        due.is("3 12 1", told(house));
        house.uniform(1, 1);
        triangle(house);
        due.is("3 12 1", told(house));
        due.fails(UNSUPPORTED, () -> typed(house, 7, 11, 13, 56).bases(6));
        due.is("7 56 0", told(house));
        due.fails(UNSUPPORTED, () -> typed(house, 3, 12, 64).bases(6));
        due.fails(NONE, () -> house.broken('a'));
        due.fails(ARGUMENT, () -> house.broken('y'));
        due.fails(UNSUPPORTED, () -> typed(house, 3, 12).bases(4));
        due.is("3 12 0", told(house));
        due.fails(UNSUPPORTED, () -> typed(house, 3, 7).bases(4));
        due.fails(NONE, () -> house.broken('b'));
        due.fails(UNSUPPORTED, () -> typed(house, 3, 12).bases(4));
        due.fails(UNSUPPORTED, () -> typed(house).bases(4));
        due.fails(NONE, () -> house.broken('x'));
        due.fails(UNSUPPORTED, () -> typed(house, 3, 12).bases(4));
        typed(house, 3).bases(4);
        due.fails(NONE, () -> house.broken('x'));
        Circuitfold full = full();
        due.fails(UNSUPPORTED, () -> typed(full, 3, 12).bases(4));
        due.is("3 12 0", told(full));
        due.fails(STATE, () -> typed(full, 3).bases(4));
        due.fails(NONE, () -> full.broken('a'));
    }

    // ---- promises 10 to 17

    private void dual() {
        due.about("promise 10");
        Circuitfold house = new Circuitfold();
        triangle(house);
        due.is(1, house.dual(0));
        due.is("1 2 4", list(house, 1, 'b'));
        due.is("3 5 6 8", list(house, 1, 'c'));
        house.uniform(0, 0);
        due.is(3, house.dual(2));
        due.is(0, house.size(3));
        due.is(4, house.dual(house.uniform(0, 10)) - 1);
        due.is(10, house.rank(5, 1023));
        due.fails(INDEX, () -> house.dual(-1));
        due.fails(INDEX, () -> house.dual(6));
        Circuitfold full = full();
        due.fails(STATE, () -> full.dual(23));
        due.fails(INDEX, () -> full.dual(24));
    }

    private void delete() {
        due.about("promise 11");
        Circuitfold house = new Circuitfold();
        triangle(house);
        due.is(1, house.delete(0, 0));
        due.is("7", list(house, 1, 'b'));
        due.is(2, house.delete(0, 3));
        due.is("3 5 6", list(house, 2, 'b'));
        due.is(4, house.delete(house.uniform(0, 1), 0));
        due.is(0, house.size(4));
        typed(house, 0, 0, 0, 1, 1, 2, 1, 2).graph();
        due.is("6", list(house, house.delete(5, 0), 'c'));
        due.is("1", list(house, house.delete(5, 3), 'c'));
        due.is("1 6", list(house, house.delete(5, 1), 'c'));
        due.fails(INDEX, () -> house.delete(0, 4));
        due.fails(INDEX, () -> house.delete(0, -1));
        due.fails(INDEX, () -> house.delete(9, 0));
        due.fails(INDEX, () -> house.delete(-1, 0));
        Circuitfold full = full();
        due.fails(STATE, () -> full.delete(0, 1));
        due.fails(INDEX, () -> full.delete(0, 2));
    }

    private void contract() {
        due.about("promise 12");
        Circuitfold house = new Circuitfold();
        triangle(house);
        due.is(1, house.contract(0, 1));
        due.is("5 6", list(house, 1, 'b'));
        due.is("3 5 6", list(house, house.contract(0, 3), 'b'));
        typed(house, 4, 4, 0, 1, 1, 2).graph();
        due.is("3", list(house, house.contract(3, 0), 'b'));
        due.is("2", list(house, house.contract(3, 1), 'b'));
        due.is(0, house.size(house.contract(house.uniform(1, 1), 0)));
        due.fails(INDEX, () -> house.contract(0, 4));
        due.fails(INDEX, () -> house.contract(0, -1));
        due.fails(INDEX, () -> house.contract(24, 0));
        Circuitfold full = full();
        due.fails(STATE, () -> full.contract(0, 1));
        due.fails(INDEX, () -> full.contract(0, 2));
    }

    private void sum() {
        due.about("promise 13");
        Circuitfold house = new Circuitfold();
        house.uniform(1, 2);
        house.uniform(2, 3);
        due.is(2, house.sum(0, 1));
        due.is("13 14 21 22 25 26", list(house, 2, 'b'));
        due.is(3, house.sum(1, 0));
        due.is("11 13 14 19 21 22", list(house, 3, 'b'));
        due.is(4, house.sum(2, 3));
        due.is(10, house.size(4));
        due.fails(UNSUPPORTED, () -> house.sum(4, 0));
        due.fails(UNSUPPORTED, () -> house.sum(0, 4));
        house.uniform(0, 0);
        due.is(true, house.areAlike(house.sum(5, 4), 4));
        due.fails(INDEX, () -> house.sum(0, 7));
        due.fails(INDEX, () -> house.sum(-1, 4));
        Circuitfold full = full();
        due.fails(STATE, () -> full.sum(0, 1));
        due.fails(INDEX, () -> full.sum(0, 24));
        Circuitfold great = new Circuitfold();
        for (int i = 0; i < 24; i++) {
            great.uniform(1, 6);
        }
        due.fails(UNSUPPORTED, () -> great.sum(0, 1));
    }

    private void union() {
        due.about("promise 14");
        Circuitfold house = new Circuitfold();
        house.uniform(1, 4);
        typed(house, 0, 1, 0, 1, 2, 2, 3, 4).graph();
        due.is(2, house.union(0, 1));
        due.is("11 13 14", list(house, 2, 'b'));
        due.is(3, house.union(1, 1));
        due.is("11", list(house, 3, 'b'));
        house.uniform(0, 0);
        due.is(0, house.size(house.union(4, 4)));
        house.uniform(1, 3);
        due.fails(UNSUPPORTED, () -> house.union(0, 6));
        due.fails(INDEX, () -> house.union(0, 7));
        due.fails(INDEX, () -> house.union(7, 0));
        Circuitfold full = full();
        due.fails(STATE, () -> full.union(0, 1));
        Circuitfold mixed = new Circuitfold();
        for (int i = 0; i < 24; i++) {
            mixed.uniform(1, 1 + i % 2);
        }
        due.fails(UNSUPPORTED, () -> mixed.union(0, 1));
        due.fails(INDEX, () -> mixed.union(0, 24));
    }

    private void truncate() {
        due.about("promise 15");
        Circuitfold house = new Circuitfold();
        triangle(house);
        due.is(1, house.truncate(0));
        due.is("3 5 6 9 10 12", list(house, 1, 'b'));
        due.is(3, house.truncate(house.truncate(1)));
        due.is("0", list(house, 3, 'b'));
        due.fails(UNSUPPORTED, () -> house.truncate(3));
        due.fails(INDEX, () -> house.truncate(4));
        Circuitfold full = full();
        due.fails(STATE, () -> full.truncate(0));
        due.fails(INDEX, () -> full.truncate(24));
        Circuitfold none = new Circuitfold();
        for (int i = 0; i < 24; i++) {
            none.uniform(0, 2);
        }
        due.fails(UNSUPPORTED, () -> none.truncate(0));
    }

    private void relax() {
        due.about("promise 16");
        Circuitfold house = new Circuitfold();
        fano(house);
        int line = house.setAt(0, 'c', 0);
        due.is(1, house.relax(0, line));
        due.is(29, house.count(1, 'b'));
        due.is(3, house.rank(1, line));
        due.is(28, house.count(0, 'b'));
        due.fails(UNSUPPORTED, () -> house.relax(1, line));
        due.fails(UNSUPPORTED, () -> house.relax(0, 3));
        due.fails(UNSUPPORTED, () -> house.relax(0, 0));
        due.fails(UNSUPPORTED, () -> house.relax(0, 127));
        due.fails(ARGUMENT, () -> house.relax(0, 128));
        due.fails(ARGUMENT, () -> house.relax(0, -1));
        due.fails(INDEX, () -> house.relax(2, 128));
        triangle(house);
        due.fails(UNSUPPORTED, () -> house.relax(2, 6));
        due.is(3, house.relax(2, 7));
        due.is("7 11 13 14", list(house, 3, 'b'));
        house.uniform(0, 1);
        due.fails(UNSUPPORTED, () -> house.relax(4, 1));
        due.fails(UNSUPPORTED, () -> house.relax(4, 0));
        typed(house, 1, 1, 0, 1).graph();
        due.is(6, house.relax(5, 1));
        due.is("1 2", list(house, 6, 'b'));
        Circuitfold full = new Circuitfold();
        for (int i = 0; i < 24; i++) {
            triangle(full);
        }
        due.fails(STATE, () -> full.relax(0, 7));
        due.fails(UNSUPPORTED, () -> full.relax(0, 3));
        due.fails(ARGUMENT, () -> full.relax(0, 16));
        due.fails(INDEX, () -> full.relax(24, 16));
    }

    private void extend() {
        due.about("promise 17");
        Circuitfold house = new Circuitfold();
        house.uniform(2, 3);
        due.is(1, house.extend(0, 7));
        due.is("3 5 6 9 10 12", list(house, 1, 'b'));
        due.is("3 5 6", list(house, house.extend(0, 0), 'b'));
        due.is("3 5 6 10 12", list(house, house.extend(0, 1), 'b'));
        triangle(house);
        due.is("7 19 21 22", list(house, house.extend(4, 3), 'c'));
        house.uniform(0, 0);
        due.is("1", list(house, house.extend(6, 0), 'c'));
        house.uniform(1, 10);
        due.fails(UNSUPPORTED, () -> house.extend(8, 3));
        due.fails(ARGUMENT, () -> house.extend(8, 1024));
        due.fails(ARGUMENT, () -> house.extend(0, 8));
        due.fails(ARGUMENT, () -> house.extend(0, -1));
        due.fails(INDEX, () -> house.extend(9, 0));
        house.uniform(8, 9);
        due.is(10, house.size(house.extend(9, 511)));
        Circuitfold full = full();
        due.fails(STATE, () -> full.extend(0, 3));
        due.fails(ARGUMENT, () -> full.extend(0, 4));
        Circuitfold great = new Circuitfold();
        for (int i = 0; i < 24; i++) {
            great.uniform(1, 10);
        }
        due.fails(UNSUPPORTED, () -> great.extend(0, 3));
    }

    // ---- promises 18 to 24

    private void size() {
        due.about("promise 18");
        Circuitfold house = new Circuitfold();
        house.uniform(0, 0);
        house.uniform(3, 10);
        due.is(0, house.size(0));
        due.is(10, house.size(1));
        due.fails(INDEX, () -> house.size(2));
        due.fails(INDEX, () -> house.size(-1));
        due.fails(INDEX, () -> house.size(24));
        due.fails(INDEX, () -> house.size(Integer.MAX_VALUE));
        due.fails(INDEX, () -> house.size(Integer.MIN_VALUE));
    }

    private void rank() {
        due.about("promise 19");
        Circuitfold house = new Circuitfold();
        triangle(house);
        int[] ranks = {0, 1, 1, 2, 1, 2, 2, 2, 1, 2, 2, 3, 2, 3, 3, 3};
        for (int set = 0; set < 16; set++) {
            due.is(ranks[set], house.rank(0, set));
        }
        due.fails(ARGUMENT, () -> house.rank(0, 16));
        due.fails(ARGUMENT, () -> house.rank(0, -1));
        due.fails(INDEX, () -> house.rank(1, 16));
        house.uniform(0, 0);
        due.is(0, house.rank(1, 0));
        due.fails(ARGUMENT, () -> house.rank(1, 1));
    }

    private void closure() {
        due.about("promise 20");
        Circuitfold house = new Circuitfold();
        triangle(house);
        due.is(0, house.closure(0, 0));
        due.is(7, house.closure(0, 6));
        due.is(15, house.closure(0, 13));
        due.is(9, house.closure(0, 9));
        house.uniform(0, 3);
        due.is(7, house.closure(1, 0));
        due.fails(ARGUMENT, () -> house.closure(1, 8));
        due.fails(ARGUMENT, () -> house.closure(1, -8));
        due.fails(INDEX, () -> house.closure(2, 8));
    }

    private void count() {
        due.about("promise 21");
        Circuitfold house = new Circuitfold();
        triangle(house);
        due.is(14, house.count(0, 'i'));
        due.is(3, house.count(0, 'b'));
        due.is(1, house.count(0, 'c'));
        due.is(10, house.count(0, 'f'));
        due.is(4, house.count(0, 'h'));
        house.uniform(0, 2);
        due.is("1 1 2 1 0", house.count(1, 'i') + " " + house.count(1, 'b') + " " + house.count(1, 'c') + " "
                + house.count(1, 'f') + " " + house.count(1, 'h'));
        house.uniform(5, 10);
        due.is(252, house.count(2, 'b'));
        due.is(210, house.count(2, 'h'));
        due.is(210, house.count(2, 'c'));
        due.fails(ARGUMENT, () -> house.count(0, 'B'));
        due.fails(ARGUMENT, () -> house.count(0, (char) 0));
        due.fails(ARGUMENT, () -> house.count(0, (char) ('b' + 65536 / 2)));
        due.fails(INDEX, () -> house.count(3, 'B'));
    }

    private void setAt() {
        due.about("promise 22");
        Circuitfold house = new Circuitfold();
        triangle(house);
        due.is("0 1 2 3 4 5 6 8 9 10 11 12 13 14", list(house, 0, 'i'));
        due.is("11 13 14", list(house, 0, 'b'));
        due.is("7", list(house, 0, 'c'));
        due.is("0 1 2 4 7 8 9 10 12 15", list(house, 0, 'f'));
        due.is("7 9 10 12", list(house, 0, 'h'));
        due.fails(NONE, () -> house.setAt(0, 'b', 3));
        due.fails(NONE, () -> house.setAt(0, 'b', -1));
        due.fails(NONE, () -> house.setAt(0, 'i', Integer.MAX_VALUE));
        due.fails(NONE, () -> house.setAt(0, 'i', Integer.MIN_VALUE));
        due.fails(ARGUMENT, () -> house.setAt(0, 'x', -1));
        due.fails(INDEX, () -> house.setAt(1, 'x', -1));
    }

    private void circuitWith() {
        due.about("promise 23");
        Circuitfold house = new Circuitfold();
        triangle(house);
        due.is(7, house.circuitWith(0, 11, 2));
        due.is(7, house.circuitWith(0, 14, 0));
        typed(house, 0, 0, 1, 2, 1, 2).graph();
        due.is(1, house.circuitWith(1, 2, 0));
        due.is(6, house.circuitWith(1, 2, 2));
        due.fails(NONE, () -> house.circuitWith(0, 11, 0));
        due.fails(UNSUPPORTED, () -> house.circuitWith(0, 7, 0));
        due.fails(UNSUPPORTED, () -> house.circuitWith(0, 3, 2));
        due.fails(UNSUPPORTED, () -> house.circuitWith(0, -1, 2));
        due.fails(UNSUPPORTED, () -> house.circuitWith(0, 16, 2));
        due.fails(UNSUPPORTED, () -> house.circuitWith(0, Integer.MAX_VALUE, 2));
        due.fails(INDEX, () -> house.circuitWith(0, 7, 4));
        due.fails(INDEX, () -> house.circuitWith(0, 11, -1));
        due.fails(INDEX, () -> house.circuitWith(2, 11, 2));
    }

    private void component() {
        due.about("promise 24");
        Circuitfold house = new Circuitfold();
        typed(house, 0, 1, 5, 5, 1, 2, 2, 0, 3, 4, 4, 3, 6, 7).graph();
        int[] lowest = {0, 1, 0, 0, 4, 4, 6};
        for (int element = 0; element < 7; element++) {
            due.is(lowest[element], house.component(0, element));
        }
        due.fails(INDEX, () -> house.component(0, 7));
        due.fails(INDEX, () -> house.component(0, -1));
        due.fails(INDEX, () -> house.component(1, 0));
    }

    // ---- promises 25 to 31

    private void areAlike() {
        due.about("promise 25");
        Circuitfold house = new Circuitfold();
        triangle(house);
        typed(house, 0, 1, 3, 4, 4, 5, 5, 3).graph();
        house.dual(0);
        house.uniform(3, 4);
        house.uniform(3, 5);
        due.is(true, house.areAlike(0, 1));
        due.is(true, house.areAlike(1, 0));
        due.is(false, house.areAlike(0, 2));
        due.is(false, house.areAlike(0, 3));
        due.is(false, house.areAlike(3, 4));
        due.is(true, house.areAlike(4, 4));
        house.uniform(10, 10);
        typed(house, 1, 2, 4, 8, 16, 32, 64, 128, 256).meeting(10);
        due.is(false, house.areAlike(5, 6));
        due.is(false, house.areAlike(6, 5));
        due.fails(INDEX, () -> house.areAlike(0, 7));
        due.fails(INDEX, () -> house.areAlike(-1, 0));
        Circuitfold nothing = new Circuitfold();
        nothing.uniform(0, 0);
        due.is(true, nothing.areAlike(0, 0));
        unlikeInSpite();
    }

    /** As many bases with each number of elements, element by element, and yet no isomorphism. */
    private void unlikeInSpite() {
        Circuitfold house = new Circuitfold();
        typed(house, 4, 1, 0, 1, 1, 2, 2, 4, 4, 4, 2, 3, 4, 0, 3, 4, 4, 0, 2, 4, 1, 1, 0, 4, 0, 2, 2, 1, 0, 3)
                .columns(5, 3);
        typed(house, 3, 3, 0, 3, 1, 2, 3, 2, 1, 1, 4, 1, 3, 1, 1, 4, 3, 2, 1, 0, 4, 4, 2, 2, 1, 1, 1, 0, 0, 1)
                .columns(5, 3);
        due.is(103, house.count(0, 'b'));
        due.is(103, house.count(1, 'b'));
        due.is(2, house.symmetries(0));
        due.is(1, house.symmetries(1));
        due.is(false, house.areAlike(0, 1));
        due.is(false, house.areAlike(1, 0));
        due.fails(NONE, () -> house.minorBy(0, 1));
    }

    private void image() {
        due.about("promise 26");
        Circuitfold house = new Circuitfold();
        triangle(house);
        typed(house, 0, 1, 3, 4, 4, 5, 5, 3).graph();
        house.uniform(3, 4);
        due.is("1 2 3 0", house.image(0, 1, 0) + " " + house.image(0, 1, 1) + " " + house.image(0, 1, 2) + " "
                + house.image(0, 1, 3));
        due.is("3 0 1 2", house.image(1, 0, 0) + " " + house.image(1, 0, 1) + " " + house.image(1, 0, 2) + " "
                + house.image(1, 0, 3));
        due.is(2, house.image(0, 0, 2));
        due.fails(NONE, () -> house.image(0, 2, 0));
        due.fails(INDEX, () -> house.image(0, 2, 4));
        due.fails(INDEX, () -> house.image(0, 1, -1));
        due.fails(INDEX, () -> house.image(0, 3, 0));
        due.fails(INDEX, () -> house.image(3, 0, 0));
        house.uniform(3, 5);
        due.fails(NONE, () -> house.image(3, 2, 4));
        due.fails(INDEX, () -> house.image(2, 3, 4));
        imagesOfPlanes();
    }

    /** An affine plane, some of its lines relaxed, in other orders: here first images often turn out to be wrong. */
    private void imagesOfPlanes() {
        Reference reference = new Reference();
        planes(reference);
        for (int first = 0; first < 24; first++) {
            Circuitfold house = planes(new Reference());
            due.is(reference.symmetries(first), house.symmetries(first));
            for (int second = first % 3; second < 24; second += 3) {
                for (int element = 0; element < 9; element++) {
                    due.is(told(reference, first, second, element), told(house, first, second, element));
                }
            }
        }
    }

    private Circuitfold planes(Reference reference) {
        Circuitfold house = new Circuitfold();
        int[] steps = {1, 2, 4, 5, 7, 8, 2, 4};
        for (int order = 0; order < steps.length; order++) {
            for (int i = 0; i < 9; i++) {
                int point = (i * steps[order] + order) % 9;
                for (int entry : new int[] {1, point % 3, point / 3}) {
                    house.type(entry);
                    reference.type(entry);
                }
            }
            int plane = house.columns(3, 3);
            due.is(plane, reference.columns(3, 3));
            for (int relaxed = plane; relaxed < plane + 2; relaxed++) {
                int line = lineOf(reference, relaxed, 3 * order % 7);
                due.is(relaxed + 1, house.relax(relaxed, line));
                due.is(relaxed + 1, reference.relax(relaxed, line));
            }
        }
        return house;
    }

    private static int lineOf(Reference house, int plane, int index) {
        int left = index;
        for (int i = 0; i < house.count(plane, 'h'); i++) {
            int set = house.setAt(plane, 'h', i);
            if (Integer.bitCount(set) == 3 && left-- == 0) {
                return set;
            }
        }
        return -1;
    }

    private static String told(Circuitfold house, int first, int second, int element) {
        return house.areAlike(first, second) ? "" + house.image(first, second, element) : "none";
    }

    private static String told(Reference house, int first, int second, int element) {
        return house.areAlike(first, second) ? "" + house.image(first, second, element) : "none";
    }

    private void symmetries() {
        due.about("promise 27");
        Circuitfold house = new Circuitfold();
        due.is(6, house.symmetries(triangle(house)));
        due.is(168, house.symmetries(fano(house)));
        due.is(1, house.symmetries(house.uniform(0, 0)));
        due.is(3628800, house.symmetries(house.uniform(5, 10)));
        due.is(3628800, house.symmetries(house.uniform(10, 10)));
        due.is(120, house.symmetries(completeGraph(house, 5)));
        due.is(24, house.symmetries(completeGraph(house, 4)));
        due.is(72, house.symmetries(typed(house, 0, 3, 0, 4, 0, 5, 1, 3, 1, 4, 1, 5, 2, 3, 2, 4, 2, 5).graph()));
        int[] affine = new int[32];
        for (int i = 0; i < 32; i++) {
            affine[i] = i % 4 == 0 ? 1 : i / 4 >> (i % 4 - 1) & 1;
        }
        due.is(1344, house.symmetries(typed(house, affine).columns(2, 4)));
        due.is(24, house.symmetries(house.relax(1, house.setAt(1, 'c', 0))));
        due.fails(INDEX, () -> house.symmetries(10));
        due.fails(INDEX, () -> house.symmetries(-1));
    }

    private void minors() {
        due.about("promise 28 and 29");
        Circuitfold house = new Circuitfold();
        int k4 = completeGraph(house, 4);
        int k5 = completeGraph(house, 5);
        int line = house.uniform(2, 4);
        int three = house.uniform(2, 3);
        int nothing = house.uniform(0, 0);
        due.is(5, house.sum(line, line));
        due.is(3, house.minorBy(5, line));
        due.is(12, house.minorWithout(5, line));
        due.fails(NONE, () -> house.minorBy(k5, line));
        due.fails(NONE, () -> house.minorWithout(k5, line));
        due.is(1, house.minorBy(k5, k4));
        due.is(14, house.minorWithout(k5, k4));
        due.is(0, house.minorBy(k4, k4));
        due.is(0, house.minorWithout(k4, k4));
        due.is(1, house.minorBy(line, house.uniform(1, 3)));
        due.is(0, house.minorWithout(line, 6));
        due.is(1, house.minorBy(k4, three));
        due.is(6, house.minorWithout(k4, three));
        due.is(3, house.minorBy(line, nothing));
        due.is(12, house.minorWithout(line, nothing));
        due.fails(NONE, () -> house.minorBy(three, line));
        due.fails(NONE, () -> house.minorWithout(nothing, line));
        due.fails(INDEX, () -> house.minorBy(0, 7));
        due.fails(INDEX, () -> house.minorBy(-1, 0));
        due.fails(INDEX, () -> house.minorWithout(0, 7));
        due.fails(INDEX, () -> house.minorWithout(7, 0));
    }

    private void drawings() {
        due.about("promise 30 and 31");
        Circuitfold house = new Circuitfold();
        fano(house);
        due.is(true, house.canBeDrawn(0, 2));
        due.is(false, house.canBeDrawn(0, 3));
        due.is("100 010 110 001 101 011 111", drawing(house, 0, 2));
        house.uniform(2, 4);
        due.is(false, house.canBeDrawn(1, 2));
        due.is(true, house.canBeDrawn(1, 3));
        due.is("10 01 11 12", drawing(house, 1, 3));
        house.uniform(2, 5);
        due.is(false, house.canBeDrawn(2, 3));
        house.uniform(0, 3);
        due.is(true, house.canBeDrawn(3, 2));
        due.is(true, house.canBeDrawn(3, 3));
        due.fails(NONE, () -> house.entry(3, 2, 0, 0));
        int wheel = completeGraph(house, 4);
        due.is("100 010 001 110 101 011", drawing(house, wheel, 2));
        due.is("100 010 001 110 101 012", drawing(house, wheel, 3));
        typed(house, 2, 1, 0, 0, 1, 2, 2, 2, 1, 1, 1, 0, 0, 0, 0, 1, 0, 2).columns(3, 3);
        due.is(true, house.canBeDrawn(5, 3));
        house.relax(0, house.setAt(0, 'c', 0));
        due.is(false, house.canBeDrawn(6, 2));
        due.is(true, house.canBeDrawn(6, 3));
        house.uniform(0, 0);
        due.is(true, house.canBeDrawn(7, 2));
        due.fails(ARGUMENT, () -> house.canBeDrawn(0, 5));
        due.fails(ARGUMENT, () -> house.canBeDrawn(0, 0));
        due.fails(INDEX, () -> house.canBeDrawn(8, 5));
    }

    private void entryOrder() {
        due.about("promise 31");
        Circuitfold house = new Circuitfold();
        house.uniform(2, 4);
        due.is(2, house.entry(0, 3, 1, 3));
        due.is(0, house.entry(0, 3, 1, 0));
        due.fails(NONE, () -> house.entry(0, 3, 2, 3));
        due.fails(NONE, () -> house.entry(0, 3, -1, 3));
        due.fails(NONE, () -> house.entry(0, 2, 1, 3));
        due.fails(ARGUMENT, () -> house.entry(0, 5, 7, 3));
        due.fails(INDEX, () -> house.entry(0, 5, 7, 4));
        due.fails(INDEX, () -> house.entry(0, 3, 1, -1));
        due.fails(INDEX, () -> house.entry(1, 3, 1, 0));
        house.uniform(0, 0);
        due.fails(INDEX, () -> house.entry(1, 2, 0, 0));
    }

    // ---- promises 32 to 39

    private void greedy() {
        due.about("promise 32");
        Circuitfold house = new Circuitfold();
        triangle(house);
        due.is(11, typed(house, 5, 5, 5, 5).greedy(0));
        due.is(4, house.erase());
        due.is(14, typed(house, 1, 2, 3, 0).greedy(0));
        due.is(13, typed(house, 9, 8, 9, 1023).greedy(0));
        house.uniform(0, 0);
        due.fails(UNSUPPORTED, () -> house.greedy(1));
        due.fails(INDEX, () -> house.greedy(2));
        house.erase();
        due.is(0, house.greedy(1));
        due.fails(UNSUPPORTED, () -> house.greedy(0));
        due.fails(UNSUPPORTED, () -> typed(house, 1, 2, 3).greedy(0));
        due.fails(UNSUPPORTED, () -> typed(house, 1, 2, 3, 4, 5).greedy(0));
    }

    private void commonSets() {
        due.about("promise 33 to 35");
        Circuitfold house = new Circuitfold();
        typed(house, 0, 1, 0, 1, 2, 3, 4, 4).graph();
        typed(house, 0, 1, 2, 3, 2, 3, 0, 1).graph();
        due.is(2, house.common(0, 1));
        due.is(5, house.commonSet(0, 1));
        due.is(0, house.commonBound(0, 1));
        house.dual(0);
        due.is(1, house.common(0, 2));
        due.is(1, house.commonSet(0, 2));
        due.is(8, house.commonBound(0, 2));
        due.is(4, house.commonBound(2, 0));
        house.uniform(3, 4);
        house.uniform(1, 4);
        due.is(1, house.commonSet(3, 4));
        due.is(0, house.commonBound(3, 4));
        due.is(15, house.commonBound(4, 3));
        house.uniform(0, 0);
        due.is(0, house.common(5, 5));
        due.is(0, house.commonSet(5, 5));
        due.is(0, house.commonBound(5, 5));
        due.fails(UNSUPPORTED, () -> house.common(0, 5));
        due.fails(UNSUPPORTED, () -> house.commonSet(0, 5));
        due.fails(UNSUPPORTED, () -> house.commonBound(0, 5));
        due.fails(INDEX, () -> house.common(0, 6));
        due.fails(INDEX, () -> house.commonSet(6, 5));
        due.fails(INDEX, () -> house.commonBound(-1, 5));
    }

    private void covers() {
        due.about("promise 36 and 37");
        Circuitfold house = new Circuitfold();
        house.uniform(2, 5);
        due.is(3, house.cover(0));
        due.is(31, house.coverBound(0));
        completeGraph(house, 4);
        due.is(2, house.cover(1));
        due.is(11, house.coverBound(1));
        typed(house, 0, 1, 2, 3, 2, 3, 2, 3).graph();
        due.is(3, house.cover(2));
        due.is(14, house.coverBound(2));
        house.uniform(3, 3);
        due.is(1, house.cover(3));
        due.is(1, house.coverBound(3));
        house.uniform(0, 0);
        due.is(0, house.cover(4));
        due.fails(NONE, () -> house.coverBound(4));
        house.uniform(0, 1);
        due.fails(UNSUPPORTED, () -> house.cover(5));
        due.fails(UNSUPPORTED, () -> house.coverBound(5));
        due.fails(INDEX, () -> house.cover(6));
        due.fails(INDEX, () -> house.coverBound(6));
    }

    private void packings() {
        due.about("promise 38 and 39");
        Circuitfold house = new Circuitfold();
        house.uniform(2, 5);
        due.is(2, house.packing(0));
        due.is(0, house.packingBound(0));
        completeGraph(house, 4);
        due.is(2, house.packing(1));
        typed(house, 0, 1, 2, 3, 2, 3, 2, 3).graph();
        due.is(1, house.packing(2));
        due.is(14, house.packingBound(2));
        house.sum(house.uniform(1, 5), house.uniform(1, 1));
        due.is(1, house.packing(5));
        due.is(31, house.packingBound(5));
        house.uniform(0, 2);
        due.fails(UNSUPPORTED, () -> house.packing(6));
        due.fails(UNSUPPORTED, () -> house.packingBound(6));
        house.uniform(0, 0);
        due.fails(UNSUPPORTED, () -> house.packing(7));
        due.fails(INDEX, () -> house.packing(8));
        due.fails(INDEX, () -> house.packingBound(8));
        house.uniform(1, 10);
        due.is(10, house.packing(8));
        due.is(0, house.packingBound(8));
    }

    // ---- promises 40 to 46

    private void coefficient() {
        due.about("promise 40");
        Circuitfold house = new Circuitfold();
        int k4 = completeGraph(house, 4);
        int[][] known = {{0, 2, 3, 1}, {2, 4, 0, 0}, {3, 0, 0, 0}, {1, 0, 0, 0}};
        for (int x = 0; x <= 10; x++) {
            for (int y = 0; y <= 10; y++) {
                due.is(x < 4 && y < 4 ? known[x][y] : 0, house.coefficient(k4, x, y));
            }
        }
        house.uniform(5, 10);
        due.is(70, house.coefficient(1, 1, 0));
        due.is(70, house.coefficient(1, 0, 1));
        house.uniform(0, 0);
        due.is(1, house.coefficient(2, 0, 0));
        house.uniform(10, 10);
        due.is(1, house.coefficient(3, 10, 0));
        due.fails(ARGUMENT, () -> house.coefficient(0, 11, 0));
        due.fails(ARGUMENT, () -> house.coefficient(0, -1, 0));
        due.fails(ARGUMENT, () -> house.coefficient(0, 0, 11));
        due.fails(ARGUMENT, () -> house.coefficient(0, 0, -1));
        due.fails(INDEX, () -> house.coefficient(4, 0, -1));
    }

    private void value() {
        due.about("promise 41");
        Circuitfold house = new Circuitfold();
        int k4 = completeGraph(house, 4);
        due.is(16L, house.value(k4, 1, 1));
        due.is(64L, house.value(k4, 2, 2));
        due.is(38L, house.value(k4, 2, 1));
        due.is(24L, house.value(k4, 2, 0));
        due.is(-6L, house.value(k4, -3, 0));
        house.uniform(10, 10);
        due.is(3486784401L, house.value(1, 9, 9));
        due.is(3486784401L, house.value(1, -9, 1));
        house.uniform(0, 9);
        due.is(-387420489L, house.value(2, 1, -9));
        due.is(0L, house.value(2, 1, 0));
        house.uniform(0, 0);
        due.is(1L, house.value(3, 1, 1));
        due.fails(ARGUMENT, () -> house.value(0, 10, 0));
        due.fails(ARGUMENT, () -> house.value(0, -10, 0));
        due.fails(ARGUMENT, () -> house.value(0, 0, 10));
        due.fails(ARGUMENT, () -> house.value(0, 0, -10));
        due.fails(INDEX, () -> house.value(4, 0, -10));
    }

    private void other() {
        due.about("promise 42");
        Circuitfold house = new Circuitfold();
        int k4 = completeGraph(house, 4);
        due.is("-6 11 -6 1 0", house.other(k4, 0) + " " + house.other(k4, 1) + " " + house.other(k4, 2) + " "
                + house.other(k4, 3) + " " + house.other(k4, 4));
        house.uniform(0, 0);
        due.is(1, house.other(1, 0));
        house.uniform(0, 2);
        due.is(0, house.other(2, 0));
        house.uniform(10, 10);
        due.is(-252, house.other(3, 5));
        due.fails(ARGUMENT, () -> house.other(0, 11));
        due.fails(ARGUMENT, () -> house.other(0, -1));
        due.fails(INDEX, () -> house.other(4, -1));
    }

    private void matroids() {
        due.about("promise 43");
        Circuitfold house = new Circuitfold();
        for (int i = 0; i < 24; i++) {
            due.is(i, house.matroids());
            due.is(i, house.uniform(1, 1));
        }
        due.is(24, house.matroids());
        due.fails(STATE, () -> house.uniform(1, 1));
        due.is(24, house.matroids());
    }

    private void shares() {
        due.about("promise 44 and 45");
        Circuitfold house = new Circuitfold();
        due.fails(ARITHMETIC, house::binaryShare);
        due.fails(ARITHMETIC, house::meanBases);
        house.uniform(2, 4);
        due.is(0f, house.binaryShare());
        due.is(6.0, house.meanBases());
        house.uniform(2, 3);
        house.uniform(0, 0);
        due.is(2f / 3f, house.binaryShare());
        due.is(10.0 / 3.0, house.meanBases());
    }

    private void isSound() {
        due.about("promise 46");
        Circuitfold house = new Circuitfold();
        due.is(true, house.isSound());
        fano(house);
        house.relax(0, house.setAt(0, 'h', 2));
        house.uniform(5, 10);
        due.is(true, house.isSound());
        house.extend(1, 5);
        house.union(0, 1);
        due.is(true, house.isSound());
        due.fails(UNSUPPORTED, () -> typed(house, 3, 12).bases(4));
        due.is(true, house.isSound());
        due.is("3 12 0", told(house));
        due.is(true, full().isSound());
    }
}
