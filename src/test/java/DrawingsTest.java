import java.util.Random;

/**
 * Whatever is given by columns over the field of 2 or 3 can be drawn over it, and the drawing is this matroid, and for
 * some of them it is seen to be the least one, too.
 */
public final class DrawingsTest {

    private static final int RUNS = 4000;
    private static final int TRIED_OUT = 3;

    private final Due due = new Due();

    private DrawingsTest() {
    }

    public static void main(String[] args) {
        DrawingsTest test = new DrawingsTest();
        for (int seed = 0; seed < RUNS; seed++) {
            test.run(seed);
        }
        test.due.end("DrawingsTest");
    }

    private void run(int seed) {
        due.about("seed " + seed);
        Random random = new Random(seed);
        int field = 2 + seed % 2;
        int rows = 1 + random.nextInt(6);
        int elements = 10 - random.nextInt(3);
        int zeros = random.nextInt(4);
        Circuitfold house = new Circuitfold();
        Reference reference = new Reference();
        for (int i = 0; i < rows * elements; i++) {
            int entry = random.nextInt(4) < zeros ? 0 : random.nextInt(field);
            house.type(entry);
            reference.type(entry);
        }
        house.columns(field, rows);
        due.is(true, house.canBeDrawn(0, field));
        if (house.canBeDrawn(0, field) && house.count(0, 'h') > 0) {
            due.is(Edges.shape(house, 0), Edges.shape(drawn(house, field), 0));
            if (seed % TRIED_OUT == 0) {
                reference.columns(field, rows);
                isLeast(house, reference.made.get(0).drawing(field), field);
            }
        }
    }

    private void isLeast(Circuitfold house, int[][] least, int field) {
        for (int element = 0; element < least.length; element++) {
            for (int row = 0; row < least[element].length; row++) {
                due.is(least[element][row], house.entry(0, field, row, element));
            }
        }
    }

    /** A house with the matroid of the drawing of the first one of this house. */
    private static Circuitfold drawn(Circuitfold house, int field) {
        int elements = house.size(0);
        int rank = house.rank(0, (1 << elements) - 1);
        Circuitfold copy = new Circuitfold();
        for (int element = 0; element < elements; element++) {
            for (int row = 0; row < rank; row++) {
                copy.type(house.entry(0, field, row, element));
            }
        }
        copy.columns(field, rank);
        return copy;
    }
}
