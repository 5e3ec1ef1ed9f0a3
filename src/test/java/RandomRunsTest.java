import java.util.Random;
import java.util.function.Supplier;

/** Long random runs of calls, right and wrong ones, each answer compared with the reference. */
public final class RandomRunsTest {

    private static final int RUNS = Integer.getInteger("runs", 300);
    private static final int CALLS = 512;

    private final Random random;
    private final long seed;
    private final Circuitfold program = new Circuitfold();
    private final Reference reference = new Reference();
    private final int mostElements;
    private int calls;
    private int wrong;

    private RandomRunsTest(long seed) {
        this.seed = seed;
        random = new Random(seed);
        mostElements = 4 + (int) (seed % 7);
    }

    public static void main(String[] args) {
        int wrong = 0;
        for (int run = 0; run < RUNS; run++) {
            RandomRunsTest test = new RandomRunsTest(run);
            while (test.calls < CALLS && test.wrong == 0) {
                test.step();
            }
            wrong += test.wrong;
        }
        System.out.println(RUNS + " random runs, " + wrong + " wrong");
        System.exit(wrong == 0 ? 0 : 1);
    }

    private static Object answer(Supplier<Object> call) {
        try {
            return call.get();
        } catch (RuntimeException e) {
            return "throws " + e.getClass().getSimpleName();
        }
    }

    private void same(String call, Supplier<Object> got, Supplier<Object> due) {
        if (calls >= CALLS) {
            return;
        }
        calls++;
        Object a = answer(got);
        Object b = answer(due);
        if (!a.equals(b)) {
            wrong++;
            System.out.println("seed " + seed + " call " + calls + ": " + call + " answered " + a + ", due is " + b);
        }
    }

    private int upTo(int greatest) {
        return random.nextInt(greatest + 1);
    }

    private boolean chance(int of) {
        return random.nextInt(of) == 0;
    }

    private int matroid() {
        int made = reference.matroids();
        return made == 0 || chance(40) ? upTo(26) - 1 : random.nextInt(made);
    }

    private int size(int matroid) {
        return matroid >= 0 && matroid < reference.matroids() ? reference.size(matroid) : 4;
    }

    private int element(int matroid) {
        return chance(30) ? upTo(12) - 1 : random.nextInt(Math.max(1, size(matroid)));
    }

    private int set(int matroid) {
        return chance(30) ? upTo(2100) - 5 : random.nextInt(1 << size(matroid));
    }

    private int sizeNumber() {
        return chance(30) ? upTo(14) - 2 : someElements();
    }

    /** Mostly nearly as many as there may be in this run, as small matroids come by themselves. */
    private int someElements() {
        return chance(5) ? upTo(mostElements) : mostElements - upTo(Math.min(3, mostElements));
    }

    private char sort() {
        return chance(40) ? (char) upTo(300) : "ibcfh".charAt(upTo(4));
    }

    private void step() {
        int made = reference.matroids();
        int kind = random.nextInt(made < 4 ? 40 : made < 24 ? 160 : 300);
        if (kind < 12) {
            give(kind);
        } else if (kind < 40) {
            make(random.nextInt(9));
        } else {
            ask(random.nextInt(26));
        }
    }

    private void type(int number) {
        same("type(" + number + ")", () -> program.type(number), () -> reference.type(number));
    }

    private void erase() {
        same("erase()", program::erase, reference::erase);
    }

    private void give(int kind) {
        if (!chance(20)) {
            erase();
        }
        switch (kind) {
            case 0:
            case 1:
            case 2:
                giveGraph();
                break;
            case 3:
            case 4:
            case 5:
                giveColumns();
                break;
            case 6:
            case 7:
                giveMeeting();
                break;
            case 8:
            case 9:
                giveBases();
                break;
            case 10: {
                int rank = chance(20) ? upTo(13) - 1 : upTo(5);
                int size = sizeNumber();
                same("uniform(" + rank + ", " + size + ")", () -> program.uniform(rank, size),
                        () -> reference.uniform(rank, size));
                break;
            }
            default:
                type(chance(3) ? upTo(1100) - 20 : upTo(1023));
        }
    }

    private void giveGraph() {
        int edges = someElements();
        int vertices = 2 + upTo(5);
        for (int i = 0; i < 2 * edges; i++) {
            type(chance(200) ? 10 : upTo(vertices));
        }
        if (chance(30)) {
            type(1);
        }
        same("graph()", program::graph, reference::graph);
    }

    private void giveColumns() {
        int field = chance(20) ? upTo(7) : new int[] {2, 3, 5}[upTo(2)];
        int rows = chance(20) ? upTo(9) - 1 : 2 + upTo(chance(2) ? 2 : 4);
        int count = someElements() * Math.max(1, rows);
        for (int i = 0; i < count; i++) {
            type(chance(300) ? upTo(6) : chance(3) ? 0 : upTo(Math.max(1, field) - 1));
        }
        if (chance(30)) {
            type(1);
        }
        same("columns(" + field + ", " + rows + ")", () -> program.columns(field, rows),
                () -> reference.columns(field, rows));
    }

    private void giveMeeting() {
        int size = sizeNumber();
        int places = chance(20) ? upTo(12) : 1 + upTo(5);
        for (int i = 0; i < places; i++) {
            type(chance(60) ? upTo(1023) : upTo((1 << Math.max(0, Math.min(10, size))) - 1) & upTo(1023));
        }
        same("meeting(" + size + ")", () -> program.meeting(size), () -> reference.meeting(size));
    }

    /** Bases of a matroid that is there, often with one more or one less of them. */
    private void giveBases() {
        int matroid = matroid();
        int size = chance(10) ? sizeNumber() : size(matroid);
        if (matroid < 0 || matroid >= reference.matroids() || reference.count(matroid, 'b') > 60) {
            int number = upTo(6);
            int rank = upTo(3);
            for (int i = 0; i < number; i++) {
                int set = upTo(63);
                if (Integer.bitCount(set) == rank || chance(15)) {
                    type(set);
                }
            }
        } else {
            int left = chance(3) ? -1 : upTo(reference.count(matroid, 'b') - 1);
            for (int i = reference.count(matroid, 'b') - 1; i >= 0; i--) {
                if (i != left) {
                    type(reference.setAt(matroid, 'b', i));
                }
            }
            if (chance(4)) {
                type(upTo((1 << size(matroid)) - 1));
            }
        }
        same("bases(" + size + ")", () -> program.bases(size), () -> reference.bases(size));
        for (char what : new char[] {'a', 'b', 'x', (char) upTo(200)}) {
            if (chance(2)) {
                same("broken(" + what + ")", () -> program.broken(what), () -> reference.broken(what));
            }
        }
    }

    private void make(int kind) {
        int a = matroid();
        int b = matroid();
        int element = element(a);
        int set = set(a);
        switch (kind) {
            case 0:
                same("dual(" + a + ")", () -> program.dual(a), () -> reference.dual(a));
                break;
            case 1:
                same("delete(" + a + ", " + element + ")", () -> program.delete(a, element),
                        () -> reference.delete(a, element));
                break;
            case 2:
                same("contract(" + a + ", " + element + ")", () -> program.contract(a, element),
                        () -> reference.contract(a, element));
                break;
            case 3:
                same("sum(" + a + ", " + b + ")", () -> program.sum(a, b), () -> reference.sum(a, b));
                break;
            case 4:
                same("union(" + a + ", " + b + ")", () -> program.union(a, b), () -> reference.union(a, b));
                break;
            case 5:
                same("truncate(" + a + ")", () -> program.truncate(a), () -> reference.truncate(a));
                break;
            case 6:
            case 7:
                relax(a, set);
                break;
            default:
                same("extend(" + a + ", " + set + ")", () -> program.extend(a, set), () -> reference.extend(a, set));
        }
    }

    private void relax(int a, int random) {
        int chosen = random;
        if (a >= 0 && a < reference.matroids() && !chance(5)) {
            for (int index = 0; index < reference.count(a, 'h'); index++) {
                int set = reference.setAt(a, 'h', index);
                if (reference.made.get(a).isCircuit(set)) {
                    chosen = set;
                }
            }
        }
        int set = chosen;
        same("relax(" + a + ", " + set + ")", () -> program.relax(a, set), () -> reference.relax(a, set));
    }

    private void ask(int kind) {
        int a = matroid();
        int b = matroid();
        int element = element(a);
        int set = set(a);
        String pair = "(" + a + ", " + b + ")";
        switch (kind) {
            case 0:
                same("size(" + a + ")", () -> program.size(a), () -> reference.size(a));
                break;
            case 1:
                same("rank(" + a + ", " + set + ")", () -> program.rank(a, set), () -> reference.rank(a, set));
                break;
            case 2:
                same("closure(" + a + ", " + set + ")", () -> program.closure(a, set),
                        () -> reference.closure(a, set));
                break;
            case 3:
            case 4: {
                char sort = sort();
                same("count(" + a + ", " + sort + ")", () -> program.count(a, sort), () -> reference.count(a, sort));
                break;
            }
            case 5:
            case 6: {
                char sort = sort();
                int index = upTo(chance(2) ? 4 : 40) - 1;
                same("setAt(" + a + ", " + sort + ", " + index + ")", () -> program.setAt(a, sort, index),
                        () -> reference.setAt(a, sort, index));
                break;
            }
            case 7: {
                boolean isThere = a >= 0 && a < reference.matroids();
                int basis = !isThere || chance(8) ? set
                        : reference.setAt(a, 'b', random.nextInt(reference.count(a, 'b')));
                same("circuitWith(" + a + ", " + basis + ", " + element + ")",
                        () -> program.circuitWith(a, basis, element), () -> reference.circuitWith(a, basis, element));
                break;
            }
            case 8:
                same("component(" + a + ", " + element + ")", () -> program.component(a, element),
                        () -> reference.component(a, element));
                break;
            case 9:
            case 10:
                same("areAlike" + pair, () -> program.areAlike(a, b), () -> reference.areAlike(a, b));
                break;
            case 11:
                askImage(a, b, element);
                break;
            case 12:
                if (size(a) <= 7) {
                    same("symmetries(" + a + ")", () -> program.symmetries(a), () -> reference.symmetries(a));
                }
                break;
            case 13:
                same("minorBy" + pair, () -> program.minorBy(a, b), () -> reference.minorBy(a, b));
                break;
            case 14:
                same("minorWithout" + pair, () -> program.minorWithout(a, b), () -> reference.minorWithout(a, b));
                break;
            case 15:
            case 16:
                askDrawing(a, element);
                break;
            case 17:
                askGreedy(a);
                break;
            case 18:
                same("common" + pair, () -> program.common(a, b), () -> reference.common(a, b));
                same("commonSet" + pair, () -> program.commonSet(a, b), () -> reference.commonSet(a, b));
                same("commonBound" + pair, () -> program.commonBound(a, b), () -> reference.commonBound(a, b));
                break;
            case 19:
            case 20:
                askBounds(a);
                break;
            case 21:
            case 22:
                askCounts(a);
                break;
            case 23:
                same("matroids()", program::matroids, reference::matroids);
                break;
            case 24:
                same("binaryShare()", program::binaryShare, reference::binaryShare);
                same("meanBases()", program::meanBases, reference::meanBases);
                break;
            default:
                same("isSound()", program::isSound, () -> true);
        }
    }

    private void askImage(int a, int first, int element) {
        int b = first;
        for (int other = 0; other < reference.matroids() && chance(2); other++) {
            if (a >= 0 && a < reference.matroids() && reference.areAlike(a, other)) {
                b = other;
            }
        }
        int second = b;
        same("image(" + a + ", " + second + ", " + element + ")", () -> program.image(a, second, element),
                () -> reference.image(a, second, element));
    }

    private void askDrawing(int a, int element) {
        int field = chance(30) ? upTo(6) : 2 + upTo(1);
        same("canBeDrawn(" + a + ", " + field + ")", () -> program.canBeDrawn(a, field),
                () -> reference.canBeDrawn(a, field));
        for (int i = 0; i < 3; i++) {
            int row = upTo(chance(2) ? 2 : 5) - (chance(9) ? 1 : 0);
            same("entry(" + a + ", " + field + ", " + row + ", " + element + ")",
                    () -> program.entry(a, field, row, element), () -> reference.entry(a, field, row, element));
        }
    }

    private void askGreedy(int a) {
        if (!chance(5)) {
            erase();
            for (int i = 0; i < size(a); i++) {
                type(upTo(4));
            }
        }
        same("greedy(" + a + ")", () -> program.greedy(a), () -> reference.greedy(a));
    }

    private void askBounds(int a) {
        same("cover(" + a + ")", () -> program.cover(a), () -> reference.cover(a));
        same("coverBound(" + a + ")", () -> program.coverBound(a), () -> reference.coverBound(a));
        same("packing(" + a + ")", () -> program.packing(a), () -> reference.packing(a));
        same("packingBound(" + a + ")", () -> program.packingBound(a), () -> reference.packingBound(a));
    }

    private void askCounts(int a) {
        int x = chance(2) ? upTo(3) : upTo(12) - 1;
        int y = chance(2) ? upTo(3) : upTo(12) - 1;
        int p = upTo(20) - 10;
        int q = upTo(20) - 10;
        same("coefficient(" + a + ", " + x + ", " + y + ")", () -> program.coefficient(a, x, y),
                () -> reference.coefficient(a, x, y));
        same("value(" + a + ", " + p + ", " + q + ")", () -> program.value(a, p, q), () -> reference.value(a, p, q));
        same("other(" + a + ", " + x + ")", () -> program.other(a, x), () -> reference.other(a, x));
    }
}
