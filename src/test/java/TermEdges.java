import java.util.ArrayList;
import java.util.List;
import java.util.function.Supplier;

/** The sentences of the document's terms, at their boundary cases; what is asked of one call alone is elsewhere. */
final class TermEdges extends Edges {

    private static final String CHANGES_NOTHING =
            "A method that throws an exception changes nothing but what is told of broken bases.";
    private static final String LISTED_FIRST = "If several exceptions apply, the one that is listed first is thrown.";

    /** Small ones, so that one house answers for all of their sets. */
    private static final Maker[] GALLERY = {
        uniform(0, 0), uniform(0, 1), uniform(1, 1), uniform(0, 4), uniform(4, 4), uniform(2, 5), triangle(),
        graph(0, 0, 0, 1, 1, 0, 1, 2, 3, 3, 2, 0, 4, 5), completeGraph(4), fano(),
        columns(5, 2, 1, 0, 0, 1, 1, 1, 1, 2, 1, 3, 2, 4, 0, 0), bases(3, 4),
        meeting(5, 3, 6, 12, 24, 0),
    };

    TermEdges(Due due) {
        super(due);
    }

    @Override
    void all() {
        unchanged();
        sets();
        numbersOfMatroids();
        independentSets();
        ranks();
        otherFaces();
        loops();
        rows();
        rings();
        fields();
        meetings();
        basesThatAreLookedAt();
        duals();
        parts();
        sumsAndUnions();
        truncatedAndRelaxed();
        extended();
        isomorphisms();
        minors();
        drawings();
        greedyBases();
        commonSets();
        coversAndPackings();
        polynomials();
        exceptions();
    }

    // ---- matroids and sets

    private void unchanged() {
        sentence(0, "A matroid is never changed, all its faces agree, and each answer comes with what shows it.");
        for (Maker maker : GALLERY) {
            Circuitfold house = houseOf(maker);
            int all = (1 << house.size(0)) - 1;
            for (Call call : List.<Call>of(h -> h.dual(0), h -> h.delete(0, 0), h -> h.contract(0, 0), h -> h.sum(0, 0),
                    h -> h.union(0, 0), h -> h.truncate(0), h -> h.relax(0, 7), h -> h.extend(0, all),
                    h -> h.symmetries(0), h -> h.image(0, 0, 0), h -> h.minorBy(0, 1), h -> h.entry(0, 2, 0, 0),
                    h -> h.entry(0, 3, 0, 0), h -> h.cover(0), h -> h.packing(0), Circuitfold::isSound)) {
                Due.outcome(() -> call.on(house));
            }
            is(shape(maker), shape(house, 0));
        }
        Circuitfold house = houseOf(completeGraph(4));
        house.uniform(1, 2);
        is(3, house.minorBy(0, 1));
        is(12, house.minorWithout(0, 1));
        is(house.common(0, 0), Integer.bitCount(house.commonSet(0, 0)));
        is(house.common(0, 0), house.rank(0, house.commonBound(0, 0))
                + house.rank(0, 63 & ~house.commonBound(0, 0)));
    }

    private void sets() {
        sentence(0, "The elements of a matroid are numbered from 0.");
        is(1, houseOf(bases(10, 1)).rank(0, 1));
        is(0, houseOf(triangle()).component(0, 0));
        is(9, houseOf(uniform(10, 10)).component(0, 9));
        is(INDEX, Due.outcome(() -> houseOf(uniform(10, 10)).component(0, 10)));
        sentence(0, "A set of elements is told as a number: the sum of 2 to the power of each element.");
        for (int element = 0; element < 10; element++) {
            is(1 << element, houseOf(bases(10, 1 << element)).setAt(0, 'b', 0));
            is(1, houseOf(bases(10, 1 << element)).rank(0, 1 << element));
            is(0, houseOf(bases(10, 1 << element)).rank(0, 1023 ^ 1 << element));
        }
        is(1023, houseOf(uniform(10, 10)).closure(0, 1023));
        is(0, houseOf(uniform(10, 10)).closure(0, 0));
        sentence(0, "Sets are in the order of these numbers.");
        for (Maker maker : GALLERY) {
            for (char sort : new char[] {'i', 'b', 'c', 'f', 'h'}) {
                List<Integer> sets = setsOf(maker, sort);
                for (int i = 1; i < sets.size(); i++) {
                    is(true, sets.get(i - 1) < sets.get(i));
                }
            }
        }
        is("1 6 24 96 384", list(houseOf(graph(0, 0, 1, 2, 1, 2, 2, 3, 2, 3, 3, 4, 3, 4, 4, 5, 4, 5)), 0, 'c'));
    }

    private static List<Integer> setsOf(Maker maker, char sort) {
        Circuitfold house = houseOf(maker);
        List<Integer> sets = new ArrayList<>();
        int count = house.count(0, sort);
        for (int i = 0; i < count; i++) {
            sets.add(house.setAt(0, sort, i));
        }
        return sets;
    }

    private static int sizeOf(Maker maker) {
        return houseOf(maker).size(0);
    }

    private void numbersOfMatroids() {
        sentence(0, "At most 24 matroids are numbered from 0, each with at most 10 elements.");
        Circuitfold house = empty();
        for (int number = 0; number < 24; number++) {
            is(number, house.uniform(number % 11, 10));
        }
        for (int number = 0; number < 24; number++) {
            is(10, house.size(number));
            is(number % 11, house.rank(number, 1023));
        }
        for (Call call : List.<Call>of(h -> h.uniform(0, 0), Circuitfold::graph, h -> h.columns(2, 1),
                h -> h.meeting(0), h -> h.dual(0), h -> h.delete(0, 0), h -> h.contract(0, 0), h -> h.sum(0, 1),
                h -> h.union(0, 0), h -> h.truncate(0), h -> h.relax(0, 7), h -> h.extend(23, 0))) {
            refused(STATE, () -> full(triangle()), call);
        }
        refused(STATE, () -> typed(full(), 0), h -> h.bases(0));
        for (Call call : List.<Call>of(h -> h.uniform(0, 11), h -> typed(h, times(22, 1)).graph(),
                h -> typed(h, times(11, 1)).columns(2, 1), h -> h.meeting(11), h -> h.bases(11), h -> h.sum(0, 1),
                h -> h.sum(1, 0), h -> h.extend(0, 0))) {
            Circuitfold two = houseOf(uniform(5, 10), uniform(1, 1));
            is(true, Due.outcome(() -> call.on(two)) instanceof Class);
            is(2, two.matroids());
        }
    }

    private void independentSets() {
        sentence(0, "Some sets are independent: the empty one, each part of an independent one, and if one independent "
                + "set has more elements than another one, this one with some element that just the greater one has is "
                + "independent, too.");
        for (Maker maker : GALLERY) {
            List<Integer> sets = setsOf(maker, 'i');
            is(0, sets.get(0));
            for (int great : sets) {
                for (int part = great; part > 0; part = (part - 1) & great) {
                    is(true, sets.contains(part));
                }
                for (int small : sets) {
                    if (Integer.bitCount(small) < Integer.bitCount(great)) {
                        is(true, canGrow(sets, small, great));
                    }
                }
            }
        }
    }

    private static boolean canGrow(List<Integer> sets, int small, int great) {
        for (int bit = 1; bit <= great; bit <<= 1) {
            if ((great & ~small & bit) != 0 && sets.contains(small | bit)) {
                return true;
            }
        }
        return false;
    }

    private static int rankAmong(List<Integer> independent, int set) {
        int rank = 0;
        for (int part : independent) {
            if ((part & ~set) == 0) {
                rank = Math.max(rank, Integer.bitCount(part));
            }
        }
        return rank;
    }

    private void ranks() {
        sentence(0, "The rank of a set is the greatest number of elements of an independent part of it.");
        for (Maker maker : GALLERY) {
            Circuitfold house = houseOf(maker);
            List<Integer> independent = setsOf(maker, 'i');
            for (int set = 0; set < 1 << sizeOf(maker); set++) {
                is(rankAmong(independent, set), house.rank(0, set));
            }
        }
        sentence(0, "The rank of a matroid is that of all of its elements.");
        for (Maker maker : GALLERY) {
            int all = (1 << sizeOf(maker)) - 1;
            int rank = houseOf(maker).rank(0, all);
            is(rank, Integer.bitCount(houseOf(maker).setAt(0, 'b', 0)));
            is(rank, rankAmong(setsOf(maker, 'i'), all));
        }
        is(0, houseOf(uniform(0, 0)).rank(0, 0));
    }

    private void otherFaces() {
        sentence(0, "A basis is an independent set of this rank; a circuit is a set that is not independent, whose "
                + "parts with one element less all are; the closure of a set has all elements that do not make its "
                + "rank greater; a flat is its own closure; a hyperplane is a flat of the rank less 1.");
        for (Maker maker : GALLERY) {
            List<Integer> independent = setsOf(maker, 'i');
            List<Integer> bases = setsOf(maker, 'b');
            List<Integer> circuits = setsOf(maker, 'c');
            List<Integer> flats = setsOf(maker, 'f');
            List<Integer> hyperplanes = setsOf(maker, 'h');
            Circuitfold house = houseOf(maker);
            int size = house.size(0);
            int full = rankAmong(independent, (1 << size) - 1);
            for (int set = 0; set < 1 << size; set++) {
                int rank = rankAmong(independent, set);
                int closure = closureAmong(independent, set, size);
                boolean isIndependent = independent.contains(set);
                is(isIndependent && rank == full, bases.contains(set));
                is(!isIndependent && arePartsAmong(independent, set), circuits.contains(set));
                is(closure, house.closure(0, set));
                is(closure == set, flats.contains(set));
                is(closure == set && rank == full - 1, hyperplanes.contains(set));
            }
        }
    }

    private static int closureAmong(List<Integer> independent, int set, int size) {
        int closure = 0;
        for (int element = 0; element < size; element++) {
            if (rankAmong(independent, set | 1 << element) == rankAmong(independent, set)) {
                closure |= 1 << element;
            }
        }
        return closure;
    }

    private static boolean arePartsAmong(List<Integer> independent, int set) {
        for (int bit = 1; bit <= set; bit <<= 1) {
            if ((set & bit) != 0 && !independent.contains(set ^ bit)) {
                return false;
            }
        }
        return true;
    }

    private void loops() {
        sentence(0, "A loop is in no basis.");
        for (int loop = 0; loop < 10; loop++) {
            Maker maker = bases(10, 1023 ^ 1 << loop);
            is(1023 ^ 1 << loop, houseOf(maker).setAt(0, 'b', 0));
            is(1 << loop, houseOf(maker).closure(0, 0));
            is(UNSUPPORTED, Due.outcome(() -> houseOf(maker).cover(0)));
        }
        is(1023, houseOf(uniform(0, 10)).closure(0, 0));
        is(0, houseOf(uniform(10, 10)).closure(0, 0));
        is(10, houseOf(uniform(1, 10)).cover(0));
    }

    // ---- given matroids

    private void rows() {
        sentence(0, "Numbers are typed into a row, of which a matroid is made, and which is empty then.");
        for (Call call : List.<Call>of(Circuitfold::graph, h -> h.columns(2, 1), h -> h.meeting(2), h -> h.bases(2))) {
            Circuitfold house = typed(empty(), 1, 1);
            is(0, call.on(house));
            is(0, house.erase());
            is(1, typed(house, 1, 1).graph());
            is(1, house.type(1));
        }
        for (Call call : List.<Call>of(h -> h.uniform(1, 1), h -> h.dual(0), h -> h.delete(0, 0),
                h -> h.contract(0, 0), h -> h.sum(0, 0), h -> h.union(0, 0), h -> h.truncate(0), h -> h.relax(0, 7),
                h -> h.extend(0, 0), h -> h.greedy(0), h -> h.isSound())) {
            Circuitfold house = typed(houseOf(triangle()), 1, 2, 3, 4);
            call.on(house);
            is(4, house.erase());
        }
    }

    private void rings() {
        sentence(0, "A graph: two numbers for each element, the vertices that an edge joins; sets of edges without a "
                + "ring are independent; an edge from a vertex to itself is a ring.");
        is("1", list(houseOf(graph(5, 5)), 0, 'c'));
        is("", list(houseOf(graph(5, 6)), 0, 'c'));
        is("3", list(houseOf(graph(5, 6, 6, 5)), 0, 'c'));
        is("7", list(houseOf(graph(5, 6, 6, 7, 5, 7)), 0, 'c'));
        is("1 2 512", list(houseOf(graph(0, 0, 9, 9, 0, 1, 1, 2, 2, 3, 3, 4, 4, 5, 5, 6, 6, 7, 8, 8)), 0, 'c'));
        is("1023", list(houseOf(graph(0, 1, 1, 2, 2, 3, 3, 4, 4, 5, 5, 6, 6, 7, 7, 8, 8, 9, 9, 0)), 0, 'c'));
        is("7 25 30 42 45 51 52", list(houseOf(graph(0, 1, 1, 2, 0, 2, 1, 3, 0, 3, 2, 3)), 0, 'c'));
    }

    private void fields() {
        sentence(0, "Columns over the field of 2, 3 or 5: for each element as many entries as there are rows; sets of "
                + "columns that are independent over the field are so.");
        is("3: 7", shape(columns(3, 3, 0, 1, 1, 1, 0, 1, 1, 1, 0)));
        is("3: 3 5 6", shape(columns(2, 3, 0, 1, 1, 1, 0, 1, 1, 1, 0)));
        is("3: 7", shape(columns(5, 3, 0, 1, 1, 1, 0, 1, 1, 1, 0)));
        is("3: 3 5", shape(columns(2, 3, 0, 1, 1, 1, 0, 1, 1, 0, 1)));
        is("2: 3", shape(columns(5, 2, 1, 2, 3, 4)));
        is("2: 1 2", shape(columns(5, 2, 1, 2, 4, 3)));
        is("2: 1 2", shape(columns(3, 2, 1, 2, 2, 1)));
        is("1: 0", shape(columns(5, 3, 0, 0, 0)));
        is("3: 0", shape(columns(5, 1, 0, 0, 0)));
        is("6: 63", shape(columns(2, 6, 1, 0, 0, 0, 0, 0, 1, 1, 0, 0, 0, 0, 1, 1, 1, 0, 0, 0, 1, 1, 1, 1, 0, 0,
                1, 1, 1, 1, 1, 0, 1, 1, 1, 1, 1, 1)));
        is(15, houseOf(columns(5, 2, 1, 0, 0, 1, 1, 1, 1, 2, 1, 3, 1, 4)).count(0, 'b'));
    }

    private void meetings() {
        sentence(0, "Sets that meet: a set for each of some places; sets of elements are independent that can be put to "
                + "places, each to another one, in whose set it is.");
        is("3: 0", shape(meeting(3)));
        is("3: 0", shape(meeting(3, 0, 0, 0)));
        is("3: 1", shape(meeting(3, 1, 1, 1)));
        is("3: 3 5", shape(meeting(3, 1, 7)));
        is("3: 3 5", shape(meeting(3, 7, 1)));
        is("4: 15", shape(meeting(4, 3, 3, 12, 12)));
        is("4: 7 11", shape(meeting(4, 3, 3, 3, 12)));
        is("10: 1023", shape(meeting(10, 1, 3, 7, 15, 31, 63, 127, 255, 511, 1023)));
        is("10: 1023", shape(meeting(10, 1023, 511, 255, 127, 63, 31, 15, 7, 3, 1)));
    }

    private static String broken(int size, int... sets) {
        Circuitfold house = typed(empty(), sets);
        return Due.outcome(() -> house.bases(size)) == UNSUPPORTED ? told(house) : "held";
    }

    private void basesThatAreLookedAt() {
        sentence(0, "Bases: all of them; it is looked at whether there is one, all have as many elements, and for any "
                + "two, A and B, and any element x of A that is not in B, there is one of B that is not in A, with "
                + "which instead of x the set A is a basis.");
        is(NONE.toString(), broken(3));
        is("held", broken(3, 0));
        is("held", broken(3, 7));
        is(NONE.toString(), broken(3, 0, 1));
        is(NONE.toString(), broken(3, 1, 6));
        is("held", broken(3, 1, 2));
        is("held", broken(4, 3, 5));
        is("held", broken(4, 3, 5, 10, 12));
        is("held", broken(10, 511, 1022));
        for (Maker maker : GALLERY) {
            int[] sets = setsOf(maker, 'b').stream().mapToInt(set -> set).toArray();
            is("held", broken(sizeOf(maker), sets));
            is(shape(maker), shape(bases(sizeOf(maker), sets)));
        }
        sentence(0, "If not, the first A, B and x without such an element are told, in the order of sets and elements.");
        is("3 12 0", broken(4, 3, 12));
        is("3 12 0", broken(4, 12, 12, 3));
        is("3 12 1", broken(4, 3, 12, 10));
        is("3 12 0", broken(4, 3, 12, 9));
        is("5 10 0", broken(4, 5, 10, 3));
        is("3 48 0", broken(6, 48, 3, 6));
        is("7 56 0", broken(6, 7, 11, 13, 56));
        is("31 992 0", broken(10, 31, 992));
    }

    // ---- made matroids

    private void duals() {
        sentence(0, "The dual has as bases what all bases leave of the elements.");
        for (Maker maker : GALLERY) {
            int all = (1 << sizeOf(maker)) - 1;
            List<Integer> bases = setsOf(maker, 'b');
            StringBuilder left = new StringBuilder().append(sizeOf(maker)).append(": ");
            for (int i = bases.size() - 1; i >= 0; i--) {
                left.append(all ^ bases.get(i)).append(i == 0 ? "" : " ");
            }
            is(left.toString(), made(maker, house -> house.dual(0)));
        }
    }

    private void parts() {
        sentence(0, "Deleting an element leaves the sets without it; contracting one that is not a loop leaves the "
                + "sets that are independent together with it, contracting a loop is as deleting it; elements behind "
                + "it are numbered 1 lower then.");
        for (Maker maker : GALLERY) {
            List<Integer> independent = setsOf(maker, 'i');
            for (int element = 0; element < sizeOf(maker); element++) {
                int one = element;
                boolean isLoop = !independent.contains(1 << one);
                Circuitfold house = houseOf(maker);
                house.delete(0, one);
                is(part(independent, one, false), list(house, 1, 'i'));
                Circuitfold other = houseOf(maker);
                other.contract(0, one);
                is(part(independent, one, !isLoop), list(other, 1, 'i'));
            }
        }
    }

    /** The independent sets that have an element, or have it not, without it. */
    private static String part(List<Integer> independent, int element, boolean isIn) {
        StringBuilder text = new StringBuilder();
        for (int set : independent) {
            if ((set >> element & 1) == (isIn ? 1 : 0)) {
                int low = set & (1 << element) - 1;
                int high = set >> (element + 1) << element;
                text.append(text.length() == 0 ? "" : " ").append(low | high);
            }
        }
        return text.toString();
    }

    private void sumsAndUnions() {
        Maker[] makers = {uniform(0, 0), uniform(0, 1), uniform(1, 1), uniform(1, 3), uniform(2, 3), graph(0, 0, 0, 1, 1, 0)};
        for (Maker maker : makers) {
            for (Maker other : makers) {
                sentence(0, "A sum has the elements of both, those of the second one behind those of the first one, "
                        + "with independent sets that are independent in each.");
                Circuitfold house = houseOf(maker, other);
                house.sum(0, 1);
                is(joined(maker, other, sizeOf(maker)), list(house, 2, 'i'));
                is(sizeOf(maker) + sizeOf(other), house.size(2));
                if (sizeOf(maker) == sizeOf(other)) {
                    sentence(0, "A union of two on as many elements has the sets that are an independent one of the "
                            + "first with an independent one of the second.");
                    house.union(0, 1);
                    is(joined(maker, other, 0), list(house, 3, 'i'));
                }
            }
        }
    }

    private static String joined(Maker maker, Maker other, int shift) {
        boolean[] isThere = new boolean[1024];
        for (int set : setsOf(maker, 'i')) {
            for (int second : setsOf(other, 'i')) {
                isThere[set | second << shift] = true;
            }
        }
        StringBuilder text = new StringBuilder();
        for (int set = 0; set < 1024; set++) {
            text.append(isThere[set] ? (text.length() == 0 ? "" : " ") + set : "");
        }
        return text.toString();
    }

    private void truncatedAndRelaxed() {
        sentence(0, "Truncating makes the bases those independent sets that have one element less.");
        for (Maker maker : GALLERY) {
            int rank = Integer.bitCount(setsOf(maker, 'b').get(0));
            StringBuilder text = new StringBuilder();
            for (int set : setsOf(maker, 'i')) {
                if (Integer.bitCount(set) == rank - 1) {
                    text.append(' ').append(set);
                }
            }
            if (rank > 0) {
                is(sizeOf(maker) + ":" + text, made(maker, house -> house.truncate(0)));
            }
        }
        sentence(0, "Relaxing makes a set that is a circuit and a hyperplane a basis.");
        for (Maker maker : GALLERY) {
            List<Integer> circuits = setsOf(maker, 'c');
            List<Integer> hyperplanes = setsOf(maker, 'h');
            for (int set = 0; set < 1 << sizeOf(maker); set++) {
                int relaxed = set;
                Circuitfold house = houseOf(maker);
                boolean isBoth = circuits.contains(set) && hyperplanes.contains(set);
                is(isBoth ? (Object) 1 : UNSUPPORTED, Due.outcome(() -> house.relax(0, relaxed)));
                if (isBoth) {
                    List<Integer> bases = setsOf(maker, 'b');
                    bases.add(relaxed);
                    bases.sort(null);
                    is(bases.toString().replaceAll("[\\[\\],]", ""), list(house, 1, 'b'));
                }
            }
        }
    }

    private void extended() {
        sentence(0, "Extending by a set adds an element, which is in the closure of just those sets whose closure has "
                + "all of this set.");
        for (Maker maker : GALLERY) {
            int size = sizeOf(maker);
            for (int set : new int[] {0, 1, 3, 5, (1 << size) - 1}) {
                if (set < 1 << size) {
                    Circuitfold house = houseOf(maker);
                    house.extend(0, set);
                    is(size + 1, house.size(1));
                    for (int old = 0; old < 1 << size; old++) {
                        int before = house.closure(0, old);
                        boolean isSpanned = (set & ~before) == 0;
                        is(isSpanned ? before | 1 << size : before, house.closure(1, old));
                    }
                }
            }
        }
    }

    // ---- witnesses

    private void isomorphisms() {
        sentence(0, "An isomorphism is told as that which, element by element, has the least images.");
        Circuitfold house = houseOf(uniform(2, 4), graph(0, 1, 1, 2, 2, 0, 2, 3), graph(0, 3, 3, 1, 1, 2, 2, 3),
                graph(0, 1, 2, 3, 0, 1, 2, 3), graph(0, 1, 0, 1, 2, 3, 2, 3));
        is("0123", imagesIn(house, 0, 0));
        is("0123", imagesIn(house, 1, 1));
        is("1230", imagesIn(house, 1, 2));
        is("3012", imagesIn(house, 2, 1));
        is("0213", imagesIn(house, 3, 4));
        is("0213", imagesIn(house, 4, 3));
        is("0123456789", imagesIn(houseOf(uniform(5, 10), uniform(5, 10)), 0, 1));
    }

    private static String imagesIn(Circuitfold house, int first, int second) {
        StringBuilder text = new StringBuilder();
        for (int element = 0; element < house.size(first); element++) {
            text.append(house.image(first, second, element));
        }
        return text.toString();
    }

    private void minors() {
        sentence(0, "A minor of a matroid comes by contracting some elements and deleting others; it is told by the "
                + "first set of contracted ones, then the first set of deleted ones, that leaves a matroid with an "
                + "isomorphism to the other one, the elements that are left being numbered in their order, where the "
                + "contracted set is independent, and the deleted ones do not make the rank less.");
        is("0 1", minor(uniform(0, 2), uniform(0, 1)));
        is("1 0", minor(uniform(2, 2), uniform(1, 1)));
        is("0 1", minor(graph(0, 1, 0, 1, 1, 2), uniform(2, 2)));
        is("1 2", minor(graph(0, 1, 0, 1, 1, 2), uniform(1, 1)));
        is("4 0", minor(graph(0, 1, 0, 1, 1, 2), uniform(1, 2)));
        is("1 0", minor(graph(0, 1, 0, 1, 1, 2), graph(0, 0, 0, 1)));
        is("2 1", minor(graph(3, 3, 0, 1, 1, 2), uniform(1, 1)));
        is("3 12", minor(uniform(2, 4), uniform(0, 0)));
        is("0 0", minor(uniform(0, 0), uniform(0, 0)));
    }

    private void drawings() {
        sentence(0, "A drawing over the field of 2 or 3 has a row for each element of the first basis, in their order; "
                + "the columns of these have one 1 each, in their own row; it is told as the one with the least "
                + "entries, by rising elements, then rows.");
        is("0 1", drawing(2, bases(2, 2)));
        is("00 10 10 01", drawing(2, graph(0, 0, 0, 1, 0, 1, 1, 2)));
        is("10 01 11", drawing(2, uniform(2, 3)));
        is("10 01 11", drawing(3, uniform(2, 3)));
        is("10 01 11 12", drawing(3, uniform(2, 4)));
        is("10 10 01 01 11 12", drawing(3, columns(3, 2, 1, 2, 2, 1, 1, 1, 2, 2, 1, 0, 0, 1)));
        is("100 010 110 001 101 012 122",
                drawing(3, columns(3, 3, 1, 0, 0, 0, 1, 0, 2, 1, 0, 0, 0, 1, 2, 0, 1, 0, 2, 1, 1, 1, 1)));
        is("", drawing(2, uniform(0, 0)));
    }

    private void greedyBases() {
        sentence(0, "A greedy basis takes elements by falling weights, of the same weight by rising numbers, each one "
                + "with which it stays independent.");
        is(3, typed(houseOf(uniform(2, 4)), 5, 5, 5, 5).greedy(0));
        is(9, typed(houseOf(uniform(2, 4)), 5, 4, 4, 5).greedy(0));
        is(12, typed(houseOf(uniform(2, 4)), 0, 0, 1, 1023).greedy(0));
        is(13, typed(houseOf(triangle()), 1, 0, 1, 0).greedy(0));
        is(10, typed(houseOf(graph(3, 3, 0, 1, 0, 1, 1, 2)), 1023, 1, 1, 0).greedy(0));
        is(12, typed(houseOf(graph(3, 3, 0, 1, 0, 1, 1, 2)), 1023, 1, 2, 0).greedy(0));
    }

    private void commonSets() {
        sentence(0, "For two matroids on as many elements, the greatest sets that are independent in both have as many "
                + "elements as is least of the rank of a set in the first one and that of the other elements in the "
                + "second one together; the first of such sets are told, for both.");
        Maker[] makers = {uniform(1, 4), uniform(2, 4), triangle(), graph(0, 1, 0, 1, 2, 3, 4, 4), uniform(0, 4),
            uniform(4, 4), graph(0, 1, 2, 3, 2, 3, 0, 1), bases(4, 8)};
        for (Maker maker : makers) {
            for (Maker other : makers) {
                Circuitfold house = houseOf(maker, other);
                List<Integer> sets = setsOf(maker, 'i');
                sets.retainAll(setsOf(other, 'i'));
                int greatest = 0;
                for (int set : sets) {
                    greatest = Integer.bitCount(set) > Integer.bitCount(greatest) ? set : greatest;
                }
                is(greatest, house.commonSet(0, 1));
                is(Integer.bitCount(greatest), house.common(0, 1));
                int bound = 0;
                while (house.rank(0, bound) + house.rank(1, 15 & ~bound) > Integer.bitCount(greatest)) {
                    bound++;
                }
                is(bound, house.commonBound(0, 1));
            }
        }
    }

    private void coversAndPackings() {
        sentence(0, "A cover is the least number of independent sets that have all elements together, which is the "
                + "greatest, over sets that are not empty, of their number of elements divided by their rank, rounded "
                + "up; a packing is the greatest number of bases without a common element, which is the least, over "
                + "sets that have not the whole rank, of the number of the other elements divided by what they lack "
                + "of the rank, rounded down; the first such sets are told.");
        // Four by two is as many as three by two when rounded up: the first set is the smaller one.
        is(2, houseOf(uniform(2, 4)).cover(0));
        is(7, houseOf(uniform(2, 4)).coverBound(0));
        is(2, houseOf(graph(0, 1, 0, 1, 1, 2, 1, 2)).cover(0));
        is(3, houseOf(graph(0, 1, 0, 1, 1, 2, 1, 2)).coverBound(0));
        is(1, houseOf(uniform(4, 4)).coverBound(0));
        // Five by two is as few as two by one when rounded down: the first set is the empty one.
        is(2, houseOf(graph(0, 1, 0, 1, 0, 1, 1, 2, 1, 2)).packing(0));
        is(0, houseOf(graph(0, 1, 0, 1, 0, 1, 1, 2, 1, 2)).packingBound(0));
        is(1, houseOf(graph(0, 1, 0, 1, 0, 1, 1, 2)).packing(0));
        is(7, houseOf(graph(0, 1, 0, 1, 0, 1, 1, 2)).packingBound(0));
        is(1, houseOf(graph(0, 1, 0, 1, 1, 2)).packing(0));
        is(0, houseOf(graph(0, 1, 0, 1, 1, 2)).packingBound(0));
    }

    // ---- counting

    private void polynomials() {
        for (Maker maker : GALLERY) {
            Circuitfold house = houseOf(maker);
            int size = house.size(0);
            int full = house.rank(0, (1 << size) - 1);
            int[] ranks = new int[1 << size];
            for (int set = 0; set < ranks.length; set++) {
                ranks[set] = house.rank(0, set);
            }
            sentence(0, "The polynomial of a matroid is the sum over all sets of (x - 1) to the power of what the set "
                    + "lacks of the rank, times (y - 1) to the power of its number of elements less its rank.");
            for (int x = -2; x <= 3; x++) {
                for (int y = -2; y <= 3; y++) {
                    long sum = 0;
                    for (int set = 0; set < ranks.length; set++) {
                        sum += power(x - 1, full - ranks[set]) * power(y - 1, Integer.bitCount(set) - ranks[set]);
                    }
                    is(sum, house.value(0, x, y));
                }
            }
            sentence(0, "The other one, in q, is the sum over all sets of 1, or -1 for an odd number of elements, times "
                    + "q to the power of what the set lacks of the rank.");
            for (int power = 0; power <= 10; power++) {
                int sum = 0;
                for (int set = 0; set < ranks.length; set++) {
                    sum += full - ranks[set] != power ? 0 : Integer.bitCount(set) % 2 == 0 ? 1 : -1;
                }
                is(sum, house.other(0, power));
            }
        }
    }

    // ---- exceptions

    /** What is refused is tried call by call with each promise; here a house goes on after many of them at once. */
    private void exceptions() {
        sentence(0, CHANGES_NOTHING);
        Supplier<Circuitfold> make = () -> typed(houseOf(triangle(), fano(), uniform(0, 2), uniform(0, 0)), 1, 2, 3);
        List<Call> calls = List.of(h -> h.type(1024), h -> h.uniform(2, 1), Circuitfold::graph, h -> h.columns(4, 1),
                h -> h.columns(2, 2), h -> h.meeting(1), h -> h.broken('a'), h -> h.broken('c'), h -> h.dual(4),
                h -> h.delete(0, 4), h -> h.contract(0, -1), h -> h.sum(0, 1), h -> h.union(0, 1), h -> h.truncate(2),
                h -> h.relax(0, 3), h -> h.extend(0, 16), h -> h.size(4), h -> h.rank(0, 16), h -> h.closure(0, -1),
                h -> h.count(0, 'x'), h -> h.setAt(0, 'b', 3), h -> h.circuitWith(0, 7, 3), h -> h.component(0, 4),
                h -> h.areAlike(0, 4), h -> h.image(0, 1, 0), h -> h.symmetries(4), h -> h.minorBy(0, 1),
                h -> h.minorWithout(0, 1), h -> h.canBeDrawn(0, 4), h -> h.entry(1, 3, 0, 0), h -> h.greedy(0),
                h -> h.common(0, 1), h -> h.commonSet(0, 1), h -> h.commonBound(0, 1), h -> h.cover(2),
                h -> h.coverBound(3), h -> h.packing(2), h -> h.packingBound(3), h -> h.coefficient(0, 11, 0),
                h -> h.value(0, 10, 0), h -> h.other(0, 11));
        Circuitfold house = make.get();
        for (Call call : calls) {
            is(true, Due.outcome(() -> call.on(house)) instanceof Class);
        }
        is(UNSUPPORTED, Due.outcome(() -> house.bases(4)));
        is(State.of(make.get()), State.of(house));
        sentence(0, LISTED_FIRST);
        Supplier<Circuitfold> full = () -> typed(full(uniform(0, 10)), 1023, 1023, 1023);
        refused(ARGUMENT, full, h -> h.uniform(11, 10));
        refused(UNSUPPORTED, full, Circuitfold::graph);
        refused(ARGUMENT, full, h -> h.columns(4, 2));
        refused(UNSUPPORTED, full, h -> h.columns(2, 2));
        refused(ARGUMENT, full, h -> h.meeting(11));
        refused(UNSUPPORTED, full, h -> h.meeting(9));
        refused(ARGUMENT, full, h -> h.bases(11));
        refused(UNSUPPORTED, full, h -> h.bases(9));
        refused(ARGUMENT, full, h -> h.broken('c'));
        refused(INDEX, full, h -> h.dual(24));
        refused(INDEX, full, h -> h.delete(0, 10));
        refused(INDEX, full, h -> h.contract(0, 10));
        refused(INDEX, full, h -> h.sum(0, 24));
        refused(UNSUPPORTED, full, h -> h.sum(0, 0));
        refused(INDEX, full, h -> h.union(24, 0));
        refused(UNSUPPORTED, full, h -> h.union(0, 1));
        refused(UNSUPPORTED, full, h -> h.truncate(0));
        refused(INDEX, full, h -> h.relax(24, 1024));
        refused(ARGUMENT, full, h -> h.relax(0, 1024));
        refused(UNSUPPORTED, full, h -> h.relax(0, 3));
        refused(INDEX, full, h -> h.extend(24, 1024));
        refused(ARGUMENT, full, h -> h.extend(0, 1024));
        refused(UNSUPPORTED, full, h -> h.extend(0, 1));
        refused(INDEX, full, h -> h.setAt(24, 'x', -1));
        refused(ARGUMENT, full, h -> h.setAt(0, 'x', -1));
        refused(INDEX, full, h -> h.circuitWith(0, 1, 10));
        refused(UNSUPPORTED, full, h -> h.circuitWith(0, 1, 0));
        refused(INDEX, full, h -> h.image(0, 1, 10));
        refused(INDEX, full, h -> h.entry(0, 5, -1, 10));
        refused(ARGUMENT, full, h -> h.entry(0, 5, -1, 9));
    }
}
