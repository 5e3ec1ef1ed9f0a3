import java.util.ArrayList;
import java.util.Collections;
import java.util.List;
import java.util.NoSuchElementException;

/**
 * The same face, worked out in another way: slowly, straight from the document's terms. A matroid is the table of
 * its independent sets; the random runs compare it with the program call by call.
 */
final class Reference {

    static final class Sets {
        final int n;
        final boolean[] independent;
        final int[] rank;
        int[][] tutte;

        Sets(int n, boolean[] independent) {
            this.n = n;
            this.independent = independent;
            rank = new int[1 << n];
            for (int set = 0; set < 1 << n; set++) {
                for (int part = set; ; part = (part - 1) & set) {
                    if (independent[part]) {
                        rank[set] = Math.max(rank[set], Integer.bitCount(part));
                    }
                    if (part == 0) {
                        break;
                    }
                }
            }
        }

        int all() {
            return (1 << n) - 1;
        }

        int full() {
            return rank[all()];
        }

        boolean isBasis(int set) {
            return set >= 0 && set <= all() && independent[set] && Integer.bitCount(set) == full();
        }

        int closure(int set) {
            int closure = 0;
            for (int e = 0; e < n; e++) {
                if (rank[set | 1 << e] == rank[set]) {
                    closure |= 1 << e;
                }
            }
            return closure;
        }

        boolean isCircuit(int set) {
            if (independent[set]) {
                return false;
            }
            for (int e = 0; e < n; e++) {
                if ((set >> e & 1) != 0 && !independent[set ^ 1 << e]) {
                    return false;
                }
            }
            return true;
        }

        boolean isSort(char sort, int set) {
            switch (sort) {
                case 'i':
                    return independent[set];
                case 'b':
                    return isBasis(set);
                case 'c':
                    return isCircuit(set);
                case 'f':
                    return closure(set) == set;
                default:
                    return closure(set) == set && rank[set] == full() - 1;
            }
        }

        Sets delete(int e) {
            boolean[] left = new boolean[1 << (n - 1)];
            for (int set = 0; set <= all(); set++) {
                if ((set >> e & 1) == 0 && independent[set]) {
                    left[squeeze(set, e)] = true;
                }
            }
            return new Sets(n - 1, left);
        }

        Sets contract(int e) {
            if (!independent[1 << e]) {
                return delete(e);
            }
            boolean[] left = new boolean[1 << (n - 1)];
            for (int set = 0; set <= all(); set++) {
                if ((set >> e & 1) != 0 && independent[set]) {
                    left[squeeze(set ^ 1 << e, e)] = true;
                }
            }
            return new Sets(n - 1, left);
        }

        private static int squeeze(int set, int e) {
            int squeezed = 0;
            for (int f = 0; f < 10; f++) {
                if ((set >> f & 1) != 0) {
                    squeezed |= 1 << (f > e ? f - 1 : f);
                }
            }
            return squeezed;
        }

        Sets dual() {
            boolean[] in = new boolean[1 << n];
            for (int basis = 0; basis <= all(); basis++) {
                if (isBasis(basis)) {
                    for (int set = 0; set <= all(); set++) {
                        in[set] |= (set & basis) == 0;
                    }
                }
            }
            return new Sets(n, in);
        }

        /** By deleting and contracting one element after another. */
        int[][] tutte() {
            if (tutte != null) {
                return tutte;
            }
            int[][] sum = new int[11][11];
            if (n == 0) {
                sum[0][0] = 1;
            } else {
                int e = n - 1;
                boolean isLoop = !independent[1 << e];
                boolean isInAll = rank[all() ^ 1 << e] < full();
                int[][] without = delete(e).tutte();
                if (isLoop || isInAll) {
                    for (int x = 0; x < 10; x++) {
                        for (int y = 0; y < 10; y++) {
                            sum[isLoop ? x : x + 1][isLoop ? y + 1 : y] += without[x][y];
                        }
                    }
                } else {
                    int[][] contracted = contract(e).tutte();
                    for (int x = 0; x <= 10; x++) {
                        for (int y = 0; y <= 10; y++) {
                            sum[x][y] = without[x][y] + contracted[x][y];
                        }
                    }
                }
            }
            tutte = sum;
            return sum;
        }

        int[] likenessTo(Sets second) {
            if (n != second.n || full() != second.full()) {
                return null;
            }
            int[] images = new int[n];
            return place(second, images, 0, 0, null) ? images : null;
        }

        long symmetries() {
            long[] count = new long[1];
            place(this, new int[n], 0, 0, count);
            return count[0];
        }

        private boolean place(Sets second, int[] images, int e, int used, long[] count) {
            if (e == n) {
                if (count != null) {
                    count[0]++;
                }
                return count == null;
            }
            for (int image = 0; image < n; image++) {
                images[e] = image;
                if ((used >> image & 1) == 0 && agrees(second, images, e)
                        && place(second, images, e + 1, used | 1 << image, count)) {
                    return true;
                }
            }
            return false;
        }

        private boolean agrees(Sets second, int[] images, int e) {
            for (int set = 1 << e; set < 2 << e; set++) {
                int mapped = 0;
                for (int f = 0; f <= e; f++) {
                    mapped |= (set >> f & 1) << images[f];
                }
                if (rank[set] != second.rank[mapped]) {
                    return false;
                }
            }
            return true;
        }

        /** Contracted and deleted set, or null. */
        int[] minor(Sets part) {
            for (int c = 0; c <= all(); c++) {
                if (!independent[c] || Integer.bitCount(c) != full() - part.full()) {
                    continue;
                }
                for (int d = 0; d <= all(); d++) {
                    if ((c & d) != 0 || rank[all() & ~d] != full() || n - Integer.bitCount(c | d) != part.n) {
                        continue;
                    }
                    Sets left = this;
                    for (int e = n - 1; e >= 0; e--) {
                        left = (c >> e & 1) != 0 ? left.contract(e) : (d >> e & 1) != 0 ? left.delete(e) : left;
                    }
                    if (left.likenessTo(part) != null) {
                        return new int[] {c, d};
                    }
                }
            }
            return null;
        }

        /** The least matrix, by trying all signs in order, element by element; null if there is none. */
        int[][] drawing(int p) {
            int basis = 0;
            while (!isBasis(basis)) {
                basis++;
            }
            int rows = full();
            int[] rowOf = new int[n];
            int row = 0;
            for (int e = 0; e < n; e++) {
                rowOf[e] = (basis >> e & 1) != 0 ? row++ : -1;
            }
            int[][] columns = new int[n][rows];
            return draw(p, basis, rowOf, columns, 0) ? columns : null;
        }

        private boolean draw(int p, int basis, int[] rowOf, int[][] columns, int e) {
            if (e == n) {
                return true;
            }
            if (rowOf[e] >= 0) {
                columns[e][rowOf[e]] = 1;
                return draw(p, basis, rowOf, columns, e + 1);
            }
            List<Integer> support = new ArrayList<>();
            for (int b = 0; b < n; b++) {
                if (rowOf[b] >= 0 && isBasis(basis ^ 1 << b | 1 << e)) {
                    support.add(rowOf[b]);
                }
            }
            for (int signs = 0; signs < 1 << support.size(); signs++) {
                if (p == 2 && signs > 0) {
                    break;
                }
                for (int i = 0; i < support.size(); i++) {
                    columns[e][support.get(i)] = (signs >> (support.size() - 1 - i) & 1) != 0 ? 2 : 1;
                }
                if (isTrueSoFar(p, basis, rowOf, columns, e) && draw(p, basis, rowOf, columns, e + 1)) {
                    return true;
                }
            }
            for (int i : support) {
                columns[e][i] = 0;
            }
            return false;
        }

        private boolean isTrueSoFar(int p, int basis, int[] rowOf, int[][] columns, int e) {
            int[][] drawn = new int[n][];
            for (int f = 0; f < n; f++) {
                drawn[f] = new int[full()];
                if (rowOf[f] >= 0) {
                    drawn[f][rowOf[f]] = 1;
                } else if (f <= e) {
                    drawn[f] = columns[f];
                }
            }
            int there = basis | (2 << e) - 1;
            for (int set = there; set > 0; set = (set - 1) & there) {
                if ((set >> e & 1) != 0 && rankOf(p, drawn, set) != rank[set]) {
                    return false;
                }
            }
            return true;
        }
    }

    static int rankOf(int p, int[][] columns, int set) {
        List<int[]> left = new ArrayList<>();
        for (int e = 0; e < columns.length; e++) {
            if ((set >> e & 1) != 0) {
                left.add(columns[e].clone());
            }
        }
        int rank = 0;
        int rows = columns.length == 0 ? 0 : columns[0].length;
        for (int row = 0; row < rows; row++) {
            int[] pivot = null;
            for (int[] column : left) {
                if (column[row] % p != 0) {
                    pivot = column;
                    break;
                }
            }
            if (pivot == null) {
                continue;
            }
            rank++;
            left.remove(pivot);
            for (int[] column : left) {
                int times = 0;
                while ((column[row] + times * pivot[row]) % p != 0) {
                    times++;
                }
                for (int i = 0; i < rows; i++) {
                    column[i] = (column[i] + times * pivot[i]) % p;
                }
            }
        }
        return rank;
    }

    private final List<Integer> row = new ArrayList<>();
    final List<Sets> made = new ArrayList<>();
    private int[] broken;

    int type(int number) {
        if (number < 0 || number > 1023) {
            throw new IllegalArgumentException();
        }
        if (row.size() == 60) {
            throw new IllegalStateException();
        }
        row.add(number);
        return row.size();
    }

    int erase() {
        int size = row.size();
        row.clear();
        return size;
    }

    int rowSize() {
        return row.size();
    }

    private int keep(int n, boolean[] independent) {
        return keep(new Sets(n, independent));
    }

    private int keep(Sets sets) {
        if (made.size() == 24) {
            throw new IllegalStateException();
        }
        made.add(sets);
        return made.size() - 1;
    }

    private Sets get(int matroid) {
        if (matroid < 0 || matroid >= made.size()) {
            throw new IndexOutOfBoundsException();
        }
        return made.get(matroid);
    }

    private void room() {
        if (made.size() == 24) {
            throw new IllegalStateException();
        }
    }

    int uniform(int rank, int size) {
        if (rank < 0 || rank > 10 || size < rank || size > 10) {
            throw new IllegalArgumentException();
        }
        boolean[] in = new boolean[1 << size];
        for (int set = 0; set < in.length; set++) {
            in[set] = Integer.bitCount(set) <= rank;
        }
        return keep(size, in);
    }

    int graph() {
        if (row.size() % 2 != 0 || row.size() > 20 || row.stream().anyMatch(v -> v > 9)) {
            throw new UnsupportedOperationException();
        }
        int n = row.size() / 2;
        boolean[] in = new boolean[1 << n];
        for (int set = 0; set < in.length; set++) {
            in[set] = true;
            int[] tree = new int[] {0, 1, 2, 3, 4, 5, 6, 7, 8, 9};
            for (int e = 0; e < n; e++) {
                if ((set >> e & 1) != 0) {
                    int u = tree[row.get(2 * e)];
                    int v = tree[row.get(2 * e + 1)];
                    in[set] &= u != v;
                    for (int i = 0; i < 10; i++) {
                        tree[i] = tree[i] == u ? v : tree[i];
                    }
                }
            }
        }
        int number = keep(n, in);
        row.clear();
        return number;
    }

    int columns(int field, int rows) {
        if (field != 2 && field != 3 && field != 5 || rows < 1 || rows > 6) {
            throw new IllegalArgumentException();
        }
        if (row.size() % rows != 0 || row.size() / rows > 10 || row.stream().anyMatch(v -> v >= field)) {
            throw new UnsupportedOperationException();
        }
        int n = row.size() / rows;
        int[][] columns = new int[n][rows];
        for (int i = 0; i < row.size(); i++) {
            columns[i / rows][i % rows] = row.get(i);
        }
        boolean[] in = new boolean[1 << n];
        for (int set = 0; set < in.length; set++) {
            in[set] = rankOf(field, columns, set) == Integer.bitCount(set);
        }
        int number = keep(n, in);
        row.clear();
        return number;
    }

    int meeting(int size) {
        if (size < 0 || size > 10) {
            throw new IllegalArgumentException();
        }
        if (row.size() > 10 || row.stream().anyMatch(v -> v >= 1 << size)) {
            throw new UnsupportedOperationException();
        }
        boolean[] in = new boolean[1 << size];
        for (int set = 0; set < in.length; set++) {
            in[set] = canMeet(set, 0);
        }
        int number = keep(size, in);
        row.clear();
        return number;
    }

    private boolean canMeet(int set, int usedPlaces) {
        if (set == 0) {
            return true;
        }
        int e = Integer.numberOfTrailingZeros(set);
        for (int place = 0; place < row.size(); place++) {
            if ((usedPlaces >> place & 1) == 0 && (row.get(place) >> e & 1) != 0
                    && canMeet(set & (set - 1), usedPlaces | 1 << place)) {
                return true;
            }
        }
        return false;
    }

    int bases(int size) {
        if (size < 0 || size > 10) {
            throw new IllegalArgumentException();
        }
        broken = null;
        if (row.isEmpty() || row.stream().anyMatch(v -> v >= 1 << size)
                || row.stream().map(Integer::bitCount).distinct().count() != 1) {
            throw new UnsupportedOperationException();
        }
        List<Integer> sorted = new ArrayList<>(row);
        Collections.sort(sorted);
        for (int a : sorted) {
            for (int b : sorted) {
                for (int x = 0; x < size; x++) {
                    if ((a >> x & 1) != 0 && (b >> x & 1) == 0 && !hasSwap(a, b, x)) {
                        broken = new int[] {a, b, x};
                        throw new UnsupportedOperationException();
                    }
                }
            }
        }
        boolean[] in = new boolean[1 << size];
        for (int set = 0; set < in.length; set++) {
            for (int basis : sorted) {
                in[set] |= (set & basis) == set;
            }
        }
        int number = keep(size, in);
        row.clear();
        return number;
    }

    private boolean hasSwap(int a, int b, int x) {
        for (int y = 0; y < 10; y++) {
            if ((b >> y & 1) != 0 && (a >> y & 1) == 0 && row.contains((a ^ 1 << x) | 1 << y)) {
                return true;
            }
        }
        return false;
    }

    int broken(char what) {
        if (what != 'a' && what != 'b' && what != 'x') {
            throw new IllegalArgumentException();
        }
        if (broken == null) {
            throw new NoSuchElementException();
        }
        return broken[what == 'a' ? 0 : what == 'b' ? 1 : 2];
    }

    int dual(int matroid) {
        return keep(get(matroid).dual());
    }

    int delete(int matroid, int element) {
        element(get(matroid), element);
        return keep(get(matroid).delete(element));
    }

    int contract(int matroid, int element) {
        element(get(matroid), element);
        return keep(get(matroid).contract(element));
    }

    private static void element(Sets sets, int element) {
        if (element < 0 || element >= sets.n) {
            throw new IndexOutOfBoundsException();
        }
    }

    private static void set(Sets sets, int set) {
        if (set < 0 || set > sets.all()) {
            throw new IllegalArgumentException();
        }
    }

    private static void asMany(Sets one, Sets two) {
        if (one.n != two.n) {
            throw new UnsupportedOperationException();
        }
    }

    int sum(int first, int second) {
        Sets one = get(first);
        Sets two = get(second);
        if (one.n + two.n > 10) {
            throw new UnsupportedOperationException();
        }
        boolean[] in = new boolean[1 << (one.n + two.n)];
        for (int a = 0; a <= one.all(); a++) {
            for (int b = 0; b <= two.all(); b++) {
                in[a + (b << one.n)] = one.independent[a] && two.independent[b];
            }
        }
        return keep(one.n + two.n, in);
    }

    int union(int first, int second) {
        Sets one = get(first);
        Sets two = get(second);
        asMany(one, two);
        boolean[] in = new boolean[1 << one.n];
        for (int a = 0; a <= one.all(); a++) {
            for (int b = 0; b <= two.all(); b++) {
                in[a | b] |= one.independent[a] && two.independent[b];
            }
        }
        return keep(one.n, in);
    }

    int truncate(int matroid) {
        Sets whole = get(matroid);
        if (whole.full() == 0) {
            throw new UnsupportedOperationException();
        }
        boolean[] in = whole.independent.clone();
        for (int set = 0; set < in.length; set++) {
            in[set] &= Integer.bitCount(set) < whole.full();
        }
        return keep(whole.n, in);
    }

    int relax(int matroid, int set) {
        Sets whole = get(matroid);
        set(whole, set);
        if (!whole.isSort('c', set) || !whole.isSort('h', set)) {
            throw new UnsupportedOperationException();
        }
        boolean[] in = whole.independent.clone();
        in[set] = true;
        return keep(whole.n, in);
    }

    int extend(int matroid, int set) {
        Sets whole = get(matroid);
        set(whole, set);
        if (whole.n == 10) {
            throw new UnsupportedOperationException();
        }
        boolean[] in = new boolean[2 << whole.n];
        for (int old = 0; old <= whole.all(); old++) {
            in[old] = whole.independent[old];
            in[old | 1 << whole.n] = whole.independent[old] && (set & ~whole.closure(old)) != 0;
        }
        return keep(whole.n + 1, in);
    }

    int size(int matroid) {
        return get(matroid).n;
    }

    int rank(int matroid, int set) {
        set(get(matroid), set);
        return get(matroid).rank[set];
    }

    int closure(int matroid, int set) {
        set(get(matroid), set);
        return get(matroid).closure(set);
    }

    private static List<Integer> list(Sets sets, char sort) {
        if ("ibcfh".indexOf(sort) < 0) {
            throw new IllegalArgumentException();
        }
        List<Integer> list = new ArrayList<>();
        for (int set = 0; set <= sets.all(); set++) {
            if (sets.isSort(sort, set)) {
                list.add(set);
            }
        }
        return list;
    }

    int count(int matroid, char sort) {
        return list(get(matroid), sort).size();
    }

    int setAt(int matroid, char sort, int index) {
        List<Integer> list = list(get(matroid), sort);
        if (index < 0 || index >= list.size()) {
            throw new NoSuchElementException();
        }
        return list.get(index);
    }

    int circuitWith(int matroid, int basis, int element) {
        Sets whole = get(matroid);
        element(whole, element);
        if (!whole.isBasis(basis)) {
            throw new UnsupportedOperationException();
        }
        if ((basis >> element & 1) != 0) {
            throw new NoSuchElementException();
        }
        for (int set = 0; set <= whole.all(); set++) {
            if ((set & ~(basis | 1 << element)) == 0 && whole.isCircuit(set)) {
                return set;
            }
        }
        throw new AssertionError();
    }

    int component(int matroid, int element) {
        Sets whole = get(matroid);
        element(whole, element);
        for (int lowest = 0; lowest < element; lowest++) {
            for (int set = 0; set <= whole.all(); set++) {
                if ((set >> lowest & 1) != 0 && (set >> element & 1) != 0 && whole.isCircuit(set)) {
                    return lowest;
                }
            }
        }
        return element;
    }

    boolean areAlike(int first, int second) {
        return get(first).likenessTo(get(second)) != null;
    }

    int image(int first, int second, int element) {
        Sets one = get(first);
        Sets two = get(second);
        element(one, element);
        int[] images = one.likenessTo(two);
        if (images == null) {
            throw new NoSuchElementException();
        }
        return images[element];
    }

    int symmetries(int matroid) {
        return (int) get(matroid).symmetries();
    }

    private int minor(int matroid, int minor, int which) {
        Sets whole = get(matroid);
        int[] told = whole.minor(get(minor));
        if (told == null) {
            throw new NoSuchElementException();
        }
        return told[which];
    }

    int minorBy(int matroid, int minor) {
        return minor(matroid, minor, 0);
    }

    int minorWithout(int matroid, int minor) {
        return minor(matroid, minor, 1);
    }

    private static void field(int field) {
        if (field != 2 && field != 3) {
            throw new IllegalArgumentException();
        }
    }

    boolean canBeDrawn(int matroid, int field) {
        Sets whole = get(matroid);
        field(field);
        return whole.drawing(field) != null;
    }

    int entry(int matroid, int field, int row, int element) {
        Sets whole = get(matroid);
        element(whole, element);
        field(field);
        int[][] columns = whole.drawing(field);
        if (columns == null || row < 0 || row >= whole.full()) {
            throw new NoSuchElementException();
        }
        return columns[element][row];
    }

    int greedy(int matroid) {
        Sets whole = get(matroid);
        if (row.size() != whole.n) {
            throw new UnsupportedOperationException();
        }
        List<Integer> order = new ArrayList<>();
        for (int e = 0; e < whole.n; e++) {
            order.add(e);
        }
        order.sort((a, b) -> Integer.compare(row.get(b), row.get(a)));
        int basis = 0;
        for (int e : order) {
            basis |= whole.independent[basis | 1 << e] ? 1 << e : 0;
        }
        return basis;
    }

    int common(int first, int second) {
        return Integer.bitCount(commonSet(first, second));
    }

    int commonSet(int first, int second) {
        Sets one = get(first);
        Sets two = get(second);
        asMany(one, two);
        for (int number = one.n; ; number--) {
            for (int set = 0; set <= one.all(); set++) {
                if (Integer.bitCount(set) == number && one.independent[set] && two.independent[set]) {
                    return set;
                }
            }
        }
    }

    int commonBound(int first, int second) {
        int common = common(first, second);
        Sets one = get(first);
        for (int set = 0; ; set++) {
            if (one.rank[set] + get(second).rank[one.all() & ~set] == common) {
                return set;
            }
        }
    }

    private static void noLoop(Sets whole) {
        for (int e = 0; e < whole.n; e++) {
            if (!whole.independent[1 << e]) {
                throw new UnsupportedOperationException();
            }
        }
    }

    int cover(int matroid) {
        Sets whole = get(matroid);
        noLoop(whole);
        int[] least = new int[1 << whole.n];
        for (int set = 1; set <= whole.all(); set++) {
            least[set] = 99;
            for (int part = set; part > 0; part = (part - 1) & set) {
                if (whole.independent[part]) {
                    least[set] = Math.min(least[set], 1 + least[set & ~part]);
                }
            }
        }
        return least[whole.all()];
    }

    int coverBound(int matroid) {
        int cover = cover(matroid);
        Sets whole = get(matroid);
        if (whole.n == 0) {
            throw new NoSuchElementException();
        }
        for (int set = 1; ; set++) {
            if (Math.ceil(1.0 * Integer.bitCount(set) / whole.rank[set]) == cover) {
                return set;
            }
        }
    }

    int packing(int matroid) {
        Sets whole = get(matroid);
        if (whole.full() == 0) {
            throw new UnsupportedOperationException();
        }
        int[] most = new int[1 << whole.n];
        for (int set = 1; set <= whole.all(); set++) {
            for (int part = set; part > 0; part = (part - 1) & set) {
                if (whole.isBasis(part)) {
                    most[set] = Math.max(most[set], 1 + most[set & ~part]);
                }
            }
        }
        return most[whole.all()];
    }

    int packingBound(int matroid) {
        int packing = packing(matroid);
        Sets whole = get(matroid);
        for (int set = 0; ; set++) {
            int lack = whole.full() - whole.rank[set];
            if (lack > 0 && Math.floor(1.0 * (whole.n - Integer.bitCount(set)) / lack) == packing) {
                return set;
            }
        }
    }

    private static void range(int number, int least, int greatest) {
        if (number < least || number > greatest) {
            throw new IllegalArgumentException();
        }
    }

    int coefficient(int matroid, int x, int y) {
        Sets whole = get(matroid);
        range(x, 0, 10);
        range(y, 0, 10);
        return whole.tutte()[x][y];
    }

    long value(int matroid, int x, int y) {
        Sets whole = get(matroid);
        range(x, -9, 9);
        range(y, -9, 9);
        long sum = 0;
        for (int i = 0; i <= 10; i++) {
            for (int j = 0; j <= 10 - i; j++) {
                long term = whole.tutte()[i][j];
                for (int k = 0; k < i; k++) {
                    term *= x;
                }
                for (int k = 0; k < j; k++) {
                    term *= y;
                }
                sum += term;
            }
        }
        return sum;
    }

    /** By the other one at 1 - q and 0, of the sign of the rank. */
    int other(int matroid, int power) {
        Sets whole = get(matroid);
        range(power, 0, 10);
        int[] q = new int[12];
        for (int x = 10; x >= 0; x--) {
            for (int i = 11; i >= 0; i--) {
                q[i] = q[i] - (i > 0 ? q[i - 1] : 0);
            }
            q[0] += whole.tutte()[x][0];
        }
        return whole.full() % 2 == 0 ? q[power] : -q[power];
    }

    int matroids() {
        return made.size();
    }

    float binaryShare() {
        if (made.isEmpty()) {
            throw new ArithmeticException();
        }
        return (float) made.stream().filter(m -> m.drawing(2) != null).count() / (float) made.size();
    }

    double meanBases() {
        if (made.isEmpty()) {
            throw new ArithmeticException();
        }
        int sum = 0;
        for (Sets sets : made) {
            sum += list(sets, 'b').size();
        }
        return (double) sum / (double) made.size();
    }
}
