import java.util.Arrays;

/** The irreducible characters, modulo a prime, of a group of permutations of eight points. */
public final class ClassCharacters {
    public static final int NONE = -1, FINE = 0, TOO_LARGE = 1, TOO_MANY = 2;

    private static final int MOST_GENERATORS = 4;
    private static final int MOST_ELEMENTS = 120;
    private static final int MOST_CLASSES = 16;
    private static final int MOST_POWER = 1000;

    private final int[] generators = new int[MOST_GENERATORS];
    private int generatorCount = 0;
    /** What the latest build answered; NONE while the generators were not built as they are. */
    private int outcome = NONE;

    private final Elements elements = new Elements();
    private final Conjugates conjugates = new Conjugates();
    private final Residues residues = new Residues();
    private final CentralMaps maps = new CentralMaps();
    private final Rows rows = new Rows();

    public ClassCharacters() {
    }

    public boolean add(int code) {
        if (generatorCount >= MOST_GENERATORS || !Codes.isPermutation(code)) {
            return false;
        }
        generators[generatorCount] = code;
        generatorCount++;
        outcome = NONE;
        return true;
    }

    public void clear() {
        generatorCount = 0;
        outcome = NONE;
    }

    public int build() {
        // the same generators always build the same, so only a change makes work
        if (outcome == NONE) {
            outcome = workOut();
        }
        return outcome;
    }

    public int order() {
        return isBuilt() ? elements.count : 0;
    }

    public int element(int k) {
        if (!isBuilt() || k < 0 || k >= elements.count) {
            return NONE;
        }
        return elements.sorted[k];
    }

    public int classOf(int code) {
        return isBuilt() ? conjugates.classHolding(code, elements) : NONE;
    }

    public int classes() {
        return isBuilt() ? conjugates.count : 0;
    }

    public int size(int c) {
        return isClass(c) ? conjugates.sizes[c] : 0;
    }

    public int least(int c) {
        return isClass(c) ? conjugates.leasts[c] : NONE;
    }

    public int power(int c, int m) {
        if (!isClass(c) || m < 0 || m > MOST_POWER) {
            return NONE;
        }
        return conjugates.classRaised(c, m);
    }

    public int constant(int i, int j, int l) {
        if (!isClass(i) || !isClass(j) || !isClass(l)) {
            return NONE;
        }
        return conjugates.pairs(i, j, l);
    }

    public int exponent() {
        return isBuilt() ? conjugates.commonExponent : 0;
    }

    public int prime() {
        return isBuilt() ? residues.modulus : 0;
    }

    public int root() {
        return isBuilt() ? residues.leastRoot : 0;
    }

    public int degree(int row) {
        return isClass(row) ? rows.degrees[rows.places[row]] : 0;
    }

    public int value(int row, int c) {
        if (!isClass(row) || !isClass(c)) {
            return NONE;
        }
        return rows.values[rows.places[row]][c];
    }

    public int multiplicity(int row, int c, int k) {
        if (!isClass(row) || !isClass(c) || k < 0 || k >= conjugates.commonExponent) {
            return NONE;
        }
        return rows.timesOfRoot(rows.places[row], c, k, conjugates, residues);
    }

    public int indicator(int row) {
        return isClass(row) ? rows.indicators[rows.places[row]] : 0;
    }

    public int kernel(int row) {
        return isClass(row) ? rows.kernels[rows.places[row]] : 0;
    }

    public int normals() {
        return isBuilt() ? rows.normalCount : 0;
    }

    private boolean isBuilt() {
        return outcome == FINE;
    }

    /** Rows are as many as classes, so this tells of a row's number too. */
    private boolean isClass(int number) {
        return isBuilt() && number >= 0 && number < conjugates.count;
    }

    private int workOut() {
        if (!elements.generate(generators, generatorCount)) {
            return TOO_LARGE;
        }
        if (!conjugates.divide(elements)) {
            return TOO_MANY;
        }
        conjugates.listPowers(elements);
        conjugates.countPairs(elements);
        residues.choose(elements.count, conjugates.commonExponent);
        maps.find(conjugates, residues);
        rows.make(elements.count, maps, conjugates, residues);
        return FINE;
    }

    /** Permutations as codes: point x has its image in the octal digit x, counted from the left. */
    private static final class Codes {
        private static final int IDENTITY = 342391;
        private static final int ALL_POINTS = 255;
        private static final int CODE_LIMIT = 16777216;
        /** How far point 0's digit is shifted; each point's digit is one DIGIT further right. */
        private static final int TOP = 21;
        private static final int DIGIT = 3;

        static boolean isPermutation(int code) {
            if (code < 0 || code >= CODE_LIMIT) {
                return false;
            }
            int images = 0;
            for (int shift = TOP; shift >= 0; shift -= DIGIT) {
                images |= 1 << ((code >> shift) & 7);
            }
            return images == ALL_POINTS;
        }

        static int product(int first, int second) {
            int code = 0;
            for (int shift = TOP; shift >= 0; shift -= DIGIT) {
                int between = (first >> shift) & 7;
                int image = (second >> (TOP - DIGIT * between)) & 7;
                code = (code << DIGIT) | image;
            }
            return code;
        }

        static int inverse(int code) {
            int back = 0;
            for (int point = 0; point <= 7; point++) {
                int image = (code >> (TOP - DIGIT * point)) & 7;
                back |= point << (TOP - DIGIT * image);
            }
            return back;
        }
    }

    /** The elements of the group that the generators make. */
    private static final class Elements {
        /** Together with all its halves not less than MOST_ELEMENTS. */
        private static final int WIDEST_STEP = 64;

        /** The codes in their order. */
        private final int[] sorted = new int[MOST_ELEMENTS];
        /** The same codes as they were found, so that each is multiplied once. */
        private final int[] found = new int[MOST_ELEMENTS];
        private int count = 0;

        /** False if there are more elements than there is room for. */
        boolean generate(int[] generators, int generatorCount) {
            count = 0;
            boolean fits = include(Codes.IDENTITY);
            // the count grows meanwhile, so the room is the bound
            for (int next = 0; next < MOST_ELEMENTS && fits && next < count; next++) {
                for (int g = 0; fits && g < generatorCount; g++) {
                    fits = include(Codes.product(found[next], generators[g]));
                }
            }
            return fits;
        }

        /** The place of a code among the elements, or NONE. */
        int indexOf(int code) {
            int at = firstNotBelow(code);
            return at < count && sorted[at] == code ? at : NONE;
        }

        private boolean include(int code) {
            int at = firstNotBelow(code);
            if (at < count && sorted[at] == code) {
                return true;
            }
            if (count >= MOST_ELEMENTS) {
                return false;
            }
            for (int k = count; k > at; k--) {
                sorted[k] = sorted[k - 1];
            }
            sorted[at] = code;
            found[count] = code;
            count++;
            return true;
        }

        /** How many codes are below this one, found in halving steps. */
        private int firstNotBelow(int code) {
            int below = 0;
            for (int step = WIDEST_STEP; step > 0; step /= 2) {
                if (below + step <= count && sorted[below + step - 1] < code) {
                    below += step;
                }
            }
            return below;
        }
    }

    /** The classes of conjugate elements, their powers and how they multiply. */
    private static final class Conjugates {
        private int count = 0;
        /** By the place of an element. */
        private final int[] classAt = new int[MOST_ELEMENTS];
        private final int[] sizes = new int[MOST_CLASSES];
        private final int[] leasts = new int[MOST_CLASSES];
        /** By class and exponent; the exponent of the group divides its order, so this is wide enough. */
        private final int[][] powers = new int[MOST_CLASSES][MOST_ELEMENTS];
        private final int[] current = new int[MOST_CLASSES];
        private int commonExponent = 1;
        private final int[] pairCounts = new int[MOST_CLASSES * MOST_CLASSES * MOST_CLASSES];

        /** False if there are more classes than there is room for. */
        boolean divide(Elements elements) {
            count = 0;
            Arrays.fill(classAt, NONE);
            for (int at = 0; at < elements.count; at++) {
                if (classAt[at] == NONE) {
                    if (count >= MOST_CLASSES) {
                        return false;
                    }
                    gather(elements.sorted[at], elements);
                }
            }
            return true;
        }

        private void gather(int least, Elements elements) {
            leasts[count] = least;
            sizes[count] = 0;
            for (int k = 0; k < elements.count; k++) {
                int g = elements.sorted[k];
                int conjugate = Codes.product(Codes.product(Codes.inverse(g), least), g);
                int at = elements.indexOf(conjugate);
                if (at != NONE && classAt[at] == NONE) {
                    classAt[at] = count;
                    sizes[count]++;
                }
            }
            count++;
        }

        int classHolding(int code, Elements elements) {
            int at = elements.indexOf(code);
            return at == NONE ? NONE : classAt[at];
        }

        /** Lists powers until all of them are the identity again: that tells the exponent. */
        void listPowers(Elements elements) {
            Arrays.fill(current, Codes.IDENTITY);
            boolean ended = false;
            for (int m = 0; !ended && m < MOST_ELEMENTS; m++) {
                ended = true;
                for (int c = 0; c < count; c++) {
                    powers[c][m] = classHolding(current[c], elements);
                    current[c] = Codes.product(current[c], leasts[c]);
                    ended = ended && current[c] == Codes.IDENTITY;
                }
                commonExponent = m + 1;
            }
        }

        int classRaised(int c, int m) {
            return powers[c][m % commonExponent];
        }

        int inverseOf(int c) {
            return powers[c][commonExponent - 1];
        }

        /** For each x and each least element there is just one y whose product x y it is. */
        void countPairs(Elements elements) {
            Arrays.fill(pairCounts, 0);
            for (int k = 0; k < elements.count; k++) {
                int back = Codes.inverse(elements.sorted[k]);
                for (int l = 0; l < count; l++) {
                    int j = classHolding(Codes.product(back, leasts[l]), elements);
                    if (j != NONE) {
                        pairCounts[pairPlace(classAt[k], j, l)]++;
                    }
                }
            }
        }

        int pairs(int i, int j, int l) {
            return pairCounts[pairPlace(i, j, l)];
        }

        private static int pairPlace(int i, int j, int l) {
            return (i * MOST_CLASSES + j) * MOST_CLASSES + l;
        }
    }

    /** Numbers modulo the prime. */
    private static final class Residues {
        /** Far more multiples of an exponent than any group needs, yet products of residues fit an int. */
        private static final int MOST_TRIALS = 300;
        private static final int MOST_STEPS = 64;

        /** Never below 2, as all division here is by it. */
        private int modulus = 3;
        private int leastRoot = 1;

        void choose(int order, int exponent) {
            int candidate = exponent + 1;
            for (int trial = 1; trial < MOST_TRIALS; trial++) {
                candidate = trial * exponent + 1;
                if (candidate * candidate > 4 * order && isPrime(candidate)) {
                    break;
                }
            }
            modulus = Math.max(candidate, 2);
            leastRoot = 1;
            while (leastRoot < modulus - 1 && orderOf(leastRoot) != exponent) {
                leastRoot++;
            }
        }

        private static boolean isPrime(int number) {
            for (int factor = 2; factor * factor <= number; factor++) {
                if (number % factor == 0) {
                    return false;
                }
            }
            return number > 1;
        }

        /** How often a residue other than 0 is multiplied with itself until it is 1. */
        private int orderOf(int residue) {
            int raised = residue;
            int m = 1;
            while (raised != 1 && m < modulus) {
                raised = times(raised, residue);
                m++;
            }
            return m;
        }

        int reduce(int number) {
            return Math.floorMod(number, modulus);
        }

        int times(int a, int b) {
            return a * b % modulus;
        }

        int plusTimes(int sum, int a, int b) {
            return (sum + a * b) % modulus;
        }

        int minusTimes(int sum, int a, int b) {
            return (sum + (modulus - a) * b) % modulus;
        }

        int over(int a, int b) {
            return times(a, reciprocal(b));
        }

        /** Of a number not below 0. Euclid's steps: each keeps rest = factor * number modulo the prime. */
        int reciprocal(int number) {
            int oldRest = modulus;
            int rest = number % modulus;
            int oldFactor = 0;
            int factor = 1;
            for (int step = 0; step < MOST_STEPS && rest > 0; step++) {
                int quotient = oldRest / rest;
                int nextRest = oldRest - quotient * rest;
                int nextFactor = oldFactor - quotient * factor;
                oldRest = rest;
                oldFactor = factor;
                rest = nextRest;
                factor = nextFactor;
            }
            return oldFactor < 0 ? oldFactor + modulus : oldFactor;
        }

        int raised(int base, int m) {
            int result = 1;
            for (int k = 0; k < m; k++) {
                result = times(result, base);
            }
            return result;
        }
    }

    /**
     * The central maps. Each is, for every class i, an eigenvector of the matrix a(i, j, l) (j its
     * row, l its column). The space of all maps is split by one matrix after the other into spaces
     * of common eigenvectors, until each is a line.
     */
    private static final class CentralMaps {
        private int count = 0;
        /** The bases of the spaces, one space after the other; at the end the central maps. */
        private final int[][] basis = new int[MOST_CLASSES][MOST_CLASSES];
        /** Where a basis map is 1 and all others of its space are 0. */
        private final int[] pivots = new int[MOST_CLASSES];
        /** By a space's first basis map: the place behind its last. */
        private final int[] ends = new int[MOST_CLASSES];
        /** The bases of the parts of the space that is being split. */
        private final int[][] parts = new int[MOST_CLASSES][MOST_CLASSES];
        private final int[] partPivots = new int[MOST_CLASSES];
        /** The class's matrix on the basis of the space. */
        private final int[][] action = new int[MOST_CLASSES][MOST_CLASSES];
        private final int[][] system = new int[MOST_CLASSES][MOST_CLASSES];
        /** By a column of the system: the row that was solved for it, or NONE. */
        private final int[] solvedBy = new int[MOST_CLASSES];

        void find(Conjugates conjugates, Residues residues) {
            count = conjugates.count;
            startWhole();
            for (int i = 1; i < count; i++) {
                for (int from = 0; from < count; from = Math.max(ends[from], from + 1)) {
                    if (ends[from] > from + 1) {
                        setAction(i, from, conjugates, residues);
                        split(from, ends[from] - from, residues);
                    }
                }
            }
            scale(residues);
        }

        private void startWhole() {
            for (int j = 0; j < count; j++) {
                Arrays.fill(basis[j], 0);
                basis[j][j] = 1;
                pivots[j] = j;
                ends[j] = j + 1;
            }
            ends[0] = count;
        }

        /** A map of the space is the sum of the basis times what it is at their pivots. */
        private void setAction(int i, int from, Conjugates conjugates, Residues residues) {
            int dimension = ends[from] - from;
            for (int t = 0; t < dimension; t++) {
                for (int j = 0; j < dimension; j++) {
                    int sum = 0;
                    for (int l = 0; l < count; l++) {
                        int pairs = conjugates.pairs(i, pivots[from + t], l);
                        sum = residues.plusTimes(sum, pairs, basis[from + j][l]);
                    }
                    action[t][j] = sum;
                }
            }
        }

        private void split(int from, int dimension, Residues residues) {
            int found = 0;
            for (int number = 0; number < residues.modulus && found < dimension; number++) {
                int before = found;
                setSystem(number, dimension, residues);
                solve(dimension, residues);
                for (int free = 0; free < dimension && found < dimension; free++) {
                    if (solvedBy[free] == NONE) {
                        takeSolution(free, from, dimension, found, residues);
                        found++;
                    }
                }
                if (found > before) {
                    ends[from + before] = from + found;
                }
            }
            for (int t = 0; t < found; t++) {
                System.arraycopy(parts[t], 0, basis[from + t], 0, count);
                pivots[from + t] = partPivots[t];
            }
        }

        private void setSystem(int number, int dimension, Residues residues) {
            for (int t = 0; t < dimension; t++) {
                System.arraycopy(action[t], 0, system[t], 0, dimension);
                system[t][t] = residues.reduce(system[t][t] - number);
            }
        }

        /** Gauss and Jordan: each solved column keeps a 1 in its row alone. */
        private void solve(int dimension, Residues residues) {
            int solved = 0;
            for (int column = 0; column < dimension; column++) {
                int chosen = solved;
                while (chosen < dimension && system[chosen][column] == 0) {
                    chosen++;
                }
                solvedBy[column] = NONE;
                if (chosen < dimension) {
                    swapRows(chosen, solved, dimension);
                    clearColumn(column, solved, dimension, residues);
                    solvedBy[column] = solved;
                    solved++;
                }
            }
        }

        private void swapRows(int a, int b, int dimension) {
            for (int j = 0; j < dimension; j++) {
                int kept = system[a][j];
                system[a][j] = system[b][j];
                system[b][j] = kept;
            }
        }

        private void clearColumn(int column, int row, int dimension, Residues residues) {
            int factor = residues.reciprocal(system[row][column]);
            for (int j = column; j < dimension; j++) {
                system[row][j] = residues.times(system[row][j], factor);
            }
            for (int t = 0; t < dimension; t++) {
                int excess = system[t][column];
                if (t != row && excess != 0) {
                    for (int j = column; j < dimension; j++) {
                        system[t][j] = residues.minusTimes(system[t][j], excess, system[row][j]);
                    }
                }
            }
        }

        /** The solution with 1 in one free column and 0 in the others: so its pivot is the column's. */
        private void takeSolution(int free, int from, int dimension, int place, Residues residues) {
            int[] part = parts[place];
            System.arraycopy(basis[from + free], 0, part, 0, count);
            for (int j = 0; j < dimension; j++) {
                if (solvedBy[j] != NONE) {
                    int factor = system[solvedBy[j]][free];
                    for (int l = 0; l < count; l++) {
                        part[l] = residues.minusTimes(part[l], factor, basis[from + j][l]);
                    }
                }
            }
            partPivots[place] = pivots[from + free];
        }

        private void scale(Residues residues) {
            for (int j = 0; j < count; j++) {
                int factor = residues.reciprocal(basis[j][0]);
                for (int l = 0; l < count; l++) {
                    basis[j][l] = residues.times(basis[j][l], factor);
                }
            }
        }
    }

    /** The rows of the table, as the central maps were found, and their places in its order. */
    private static final class Rows {
        /** Above the 67 of four exchanges that commute, which have more than all other groups here. */
        private static final int MOST_NORMALS = 128;

        private int count = 0;
        private final int[] degrees = new int[MOST_CLASSES];
        private final int[][] values = new int[MOST_CLASSES][MOST_CLASSES];
        private final int[] indicators = new int[MOST_CLASSES];
        private final int[] kernels = new int[MOST_CLASSES];
        /** By a row's number in the order of the table: where it stands here. */
        private final int[] places = new int[MOST_CLASSES];
        private final int[] normalSets = new int[MOST_NORMALS];
        private int normalCount = 0;

        void make(int order, CentralMaps maps, Conjugates conjugates, Residues residues) {
            count = conjugates.count;
            for (int r = 0; r < count; r++) {
                setValues(r, order, maps.basis[r], conjugates, residues);
                setIndicator(r, order, conjugates, residues);
                setKernel(r);
                insertPlace(r);
            }
            listNormals();
        }

        private void setValues(int r, int order, int[] map, Conjugates conjugates, Residues residues) {
            int sum = 0;
            for (int i = 0; i < count; i++) {
                int share = residues.over(map[i], conjugates.sizes[i]);
                values[r][i] = share;
                sum = residues.plusTimes(sum, share, map[conjugates.inverseOf(i)]);
            }
            degrees[r] = degreeFor(sum, order, residues);
            for (int i = 0; i < count; i++) {
                values[r][i] = residues.times(values[r][i], degrees[r]);
            }
        }

        private static int degreeFor(int sum, int order, Residues residues) {
            int wanted = residues.reduce(order);
            int most = (residues.modulus - 1) / 2;
            int d = 1;
            while (d < most && residues.times(residues.times(d, d), sum) != wanted) {
                d++;
            }
            return d;
        }

        private void setIndicator(int r, int order, Conjugates conjugates, Residues residues) {
            int sum = 0;
            for (int i = 0; i < count; i++) {
                int square = conjugates.classRaised(i, 2);
                sum = residues.plusTimes(sum, conjugates.sizes[i], values[r][square]);
            }
            int mean = residues.over(sum, order);
            indicators[r] = mean == residues.modulus - 1 ? -1 : mean;
        }

        private void setKernel(int r) {
            int set = 0;
            for (int i = 0; i < count; i++) {
                if (values[r][i] == degrees[r]) {
                    set |= 1 << i;
                }
            }
            kernels[r] = set;
        }

        private void insertPlace(int r) {
            int at = r;
            while (at > 0 && comesBefore(r, places[at - 1])) {
                places[at] = places[at - 1];
                at--;
            }
            places[at] = r;
        }

        private boolean comesBefore(int a, int b) {
            if (degrees[a] != degrees[b]) {
                return degrees[a] < degrees[b];
            }
            for (int i = 1; i < count; i++) {
                if (values[a][i] != values[b][i]) {
                    return values[a][i] < values[b][i];
                }
            }
            return false;
        }

        /** What some kernels have in common, one kernel after the other taken in. */
        private void listNormals() {
            normalCount = 0;
            for (int r = 0; r < count; r++) {
                int before = normalCount;
                includeNormal(kernels[r]);
                for (int k = 0; k < before; k++) {
                    includeNormal(normalSets[k] & kernels[r]);
                }
            }
        }

        private void includeNormal(int set) {
            for (int k = 0; k < normalCount; k++) {
                if (normalSets[k] == set) {
                    return;
                }
            }
            if (normalCount < MOST_NORMALS) {
                normalSets[normalCount] = set;
                normalCount++;
            }
        }

        int timesOfRoot(int r, int c, int k, Conjugates conjugates, Residues residues) {
            int exponent = conjugates.commonExponent;
            // the root's e-th power is 1, so this is 1 / z^k
            int step = residues.raised(residues.leastRoot, exponent - k);
            int factor = 1;
            int sum = 0;
            for (int t = 0; t < exponent; t++) {
                sum = residues.plusTimes(sum, values[r][conjugates.classRaised(c, t)], factor);
                factor = residues.times(factor, step);
            }
            return residues.over(sum, exponent);
        }
    }
}
