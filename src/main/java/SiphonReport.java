/**
 * Reads a network of chemical reactions from a text and reports on its structure: complexes and
 * their classes, rank and deficiencies, minimal siphons, and conserved sums of species.
 *
 * All rows are made in the constructor, so that no later call makes an object.
 */
public final class SiphonReport {
    public static final int HIGH = -200;
    public static final int SAME = -201;
    public static final int COMPLEXES = -202;
    public static final int REACTIONS = -203;

    private static final int NONE = -1;
    private static final int WHOLE_NETWORK = -1;
    private static final int SPECIES = 7;
    private static final int ALL_SPECIES = (1 << SPECIES) - 1;
    private static final int MOST_SIGNS = 100;
    private static final int MOST_COMPLEXES = 9;
    private static final int MOST_REACTIONS = 10;
    private static final int MOST_NUMBER = 4;
    // Of seven species there are never more sets of which none is a part of another (Sperner).
    private static final int MOST_SETS = 35;
    // Far above what Euclid's way needs for any two long numbers.
    private static final int MOST_DIVISIONS = 1000;

    private static final int ONE_STRONG_EACH = 1;
    private static final int DEFICIENCY_ZERO = 2;
    private static final int DEFICIENCY_ONE = 4;
    private static final int SIPHONS_CONSERVED = 8;
    private static final int SPECIES_CONSERVED = 16;

    private final Text text;
    private final Form form;
    private final Lines lines;
    private final Classes classes;
    private final Ranks ranks;
    private final SetList siphonSets;
    private final Sums conservedSums;
    private Network network;
    private Network spare;

    public SiphonReport() {
        text = new Text();
        form = new Form();
        lines = new Lines();
        classes = new Classes();
        ranks = new Ranks();
        siphonSets = new SetList();
        conservedSums = new Sums();
        network = new Network();
        spare = new Network();
    }

    public boolean type(char c) {
        return text.append(c);
    }

    public void clear() {
        text.length = 0;
    }

    public int read() {
        int begun = form.follow(text);
        if (!form.isRight()) {
            return -1 - begun;
        }
        int fault = lines.fill(spare, text);
        if (fault < 0) {
            return fault;
        }
        Network former = network;
        network = spare;
        spare = former;
        classes.fill(network);
        ranks.fill(network, classes);
        fillSiphons();
        conservedSums.fill(network, ranks.reduced);
        return network.reactionCount;
    }

    public int reactions() {
        return network.reactionCount;
    }

    public int complexes() {
        return network.complexCount;
    }

    public int coefficient(int complex, int species) {
        if (!network.has(complex) || !isSpecies(species)) {
            return NONE;
        }
        return network.numbers[complex][species];
    }

    public int occurring() {
        return network.speciesSet();
    }

    public int linkage() {
        return classes.linkageCount;
    }

    public int classOf(int complex) {
        return network.has(complex) ? classes.linkageOf[complex] : NONE;
    }

    public int strong() {
        return classes.strongCount;
    }

    public boolean terminal(int complex) {
        return network.has(complex) && classes.isTerminal(complex);
    }

    public int rank() {
        return ranks.ofNetwork;
    }

    public int deficiency(int linkage) {
        if (linkage == WHOLE_NETWORK) {
            return network.complexCount - classes.linkageCount - ranks.ofNetwork;
        }
        if (linkage < 0 || linkage >= classes.linkageCount) {
            return NONE;
        }
        return classes.complexesIn[linkage] - 1 - ranks.ofLinkage[linkage];
    }

    public int siphons() {
        return siphonSets.count;
    }

    public int siphon(int k) {
        return siphonSets.at(k);
    }

    public boolean conserved(int k) {
        return siphonSets.has(k) && conservedSums.supports.hasPartOf(siphonSets.at(k));
    }

    public int sums() {
        return conservedSums.supports.count;
    }

    public int support(int k) {
        return conservedSums.supports.at(k);
    }

    public int weight(int k, int species) {
        if (!conservedSums.supports.has(k) || !isSpecies(species)) {
            return NONE;
        }
        return conservedSums.weights[k][species];
    }

    public int flags() {
        int sum = 0;
        if (everyLinkageIsStrong()) {
            sum += ONE_STRONG_EACH;
            if (deficiency(WHOLE_NETWORK) == 0) {
                sum += DEFICIENCY_ZERO;
            }
        }
        if (linkagesAreNearlySimple()) {
            sum += DEFICIENCY_ONE;
        }
        if (everySiphonIsConserved()) {
            sum += SIPHONS_CONSERVED;
        }
        if (everySpeciesIsConserved()) {
            sum += SPECIES_CONSERVED;
        }
        return sum;
    }

    private void fillSiphons() {
        siphonSets.count = 0;
        int species = network.speciesSet();
        // Every part of a set has a smaller sum, so a siphon's parts have been met before it.
        for (int set = 1; set <= ALL_SPECIES; set++) {
            if (isPart(set, species) && !siphonSets.hasPartOf(set) && network.isSiphon(set)) {
                siphonSets.add(set);
            }
        }
    }

    private boolean everyLinkageIsStrong() {
        // Each linkage class is made of one or more whole strong classes.
        return classes.strongCount == classes.linkageCount;
    }

    private boolean linkagesAreNearlySimple() {
        int total = 0;
        for (int i = 0; i < classes.linkageCount; i++) {
            int own = deficiency(i);
            if (own > 1 || classes.terminalsIn[i] != 1) {
                return false;
            }
            total += own;
        }
        return total == deficiency(WHOLE_NETWORK);
    }

    private boolean everySiphonIsConserved() {
        for (int k = 0; k < siphonSets.count; k++) {
            if (!conserved(k)) {
                return false;
            }
        }
        return true;
    }

    private boolean everySpeciesIsConserved() {
        // Every conserved sum is made of minimal ones, so their supports are enough.
        return conservedSums.supports.union() == network.speciesSet();
    }

    private static boolean isSpecies(int species) {
        return species >= 0 && species < SPECIES;
    }

    private static boolean isPart(int part, int set) {
        return (part & ~set) == 0;
    }

    private static boolean holds(int set, int member) {
        return (set >> member & 1) != 0;
    }

    private static boolean sameNumbers(int[] one, int[] other) {
        for (int s = 0; s < SPECIES; s++) {
            if (one[s] != other[s]) {
                return false;
            }
        }
        return true;
    }

    private static long commonDivisor(long a, long b) {
        long x = Math.abs(a);
        long y = Math.abs(b);
        for (int i = 0; i < MOST_DIVISIONS && y != 0; i++) {
            long rest = x % y;
            x = y;
            y = rest;
        }
        return x;
    }

    /** The characters typed so far. */
    private static final class Text {
        private final char[] signs = new char[MOST_SIGNS];
        private int length;

        boolean append(char c) {
            if (c < 32 || c > 126 || length >= MOST_SIGNS) {
                return false;
            }
            signs[length] = c;
            length++;
            return true;
        }
    }

    /**
     * Follows a text character by character as long as it is the beginning of a right text. From
     * each of the states some right text can be reached, so the first refusal is the place sought.
     */
    private static final class Form {
        private static final int NOTHING = 0;
        private static final int BEFORE_SIDE = 1;
        private static final int BEFORE_TERM = 2;
        private static final int AFTER_DIGIT = 3;
        private static final int AFTER_TERM = 4;
        private static final int AFTER_ZERO = 5;

        private int state;
        private boolean onRightSide;
        private boolean refused;

        /** How many characters are the beginning of some right text. */
        int follow(Text text) {
            state = NOTHING;
            onRightSide = false;
            refused = false;
            for (int i = 0; i < text.length; i++) {
                if (!accepts(text.signs[i])) {
                    refused = true;
                    return i;
                }
            }
            return text.length;
        }

        boolean isRight() {
            boolean sideEnded = state == AFTER_TERM || state == AFTER_ZERO;
            return !refused && (state == NOTHING || onRightSide && sideEnded);
        }

        private boolean accepts(char c) {
            if (c == ' ') {
                return true;
            }
            switch (state) {
                case NOTHING:
                case BEFORE_SIDE:
                    return acceptsSide(c);
                case BEFORE_TERM:
                    return acceptsTerm(c);
                case AFTER_DIGIT:
                    return acceptsSpecies(c);
                case AFTER_TERM:
                    return acceptsPlus(c) || acceptsSideEnd(c);
                default:
                    return acceptsSideEnd(c);
            }
        }

        private boolean acceptsSide(char c) {
            return c == '0' ? moveTo(AFTER_ZERO) : acceptsTerm(c);
        }

        private boolean acceptsTerm(char c) {
            return c >= '1' && c <= '9' ? moveTo(AFTER_DIGIT) : acceptsSpecies(c);
        }

        private boolean acceptsSpecies(char c) {
            return isSpecies(c - 'A') && moveTo(AFTER_TERM);
        }

        private boolean acceptsPlus(char c) {
            return c == '+' && moveTo(BEFORE_TERM);
        }

        private boolean acceptsSideEnd(char c) {
            boolean ends = onRightSide ? c == ';' : c == '>' || c == '=';
            if (ends) {
                onRightSide = !onRightSide;
                state = BEFORE_SIDE;
            }
            return ends;
        }

        private boolean moveTo(int next) {
            state = next;
            return true;
        }
    }

    /** Takes the lines of a right text into a network, one by one. */
    private static final class Lines {
        private static final char NO_ARROW = ' ';

        private final int[] left = new int[SPECIES];
        private final int[] right = new int[SPECIES];
        private int digit;
        private char arrow;

        /** The first line's fault, or 0. */
        int fill(Network target, Text text) {
            target.complexCount = 0;
            target.reactionCount = 0;
            startLine();
            for (int i = 0; i < text.length; i++) {
                char c = text.signs[i];
                if (c == ';') {
                    int fault = endLine(target);
                    if (fault < 0) {
                        return fault;
                    }
                    startLine();
                } else {
                    take(c);
                }
            }
            // Only a text without lines ends without an arrow.
            return arrow == NO_ARROW ? 0 : endLine(target);
        }

        private void startLine() {
            for (int s = 0; s < SPECIES; s++) {
                left[s] = 0;
                right[s] = 0;
            }
            digit = 1;
            arrow = NO_ARROW;
        }

        private void take(char c) {
            if (c == '>' || c == '=') {
                arrow = c;
            } else if (c >= '1' && c <= '9') {
                digit = c - '0';
            } else if (isSpecies(c - 'A')) {
                int[] side = arrow == NO_ARROW ? left : right;
                side[c - 'A'] += digit;
                digit = 1;
            }
        }

        private int endLine(Network target) {
            if (isHigh(left) || isHigh(right)) {
                return HIGH;
            }
            if (sameNumbers(left, right)) {
                return SAME;
            }
            int from = target.place(left);
            int to = target.place(right);
            if (from < 0 || to < 0) {
                return COMPLEXES;
            }
            boolean fits = target.join(from, to) && (arrow == '>' || target.join(to, from));
            return fits ? 0 : REACTIONS;
        }

        private static boolean isHigh(int[] side) {
            for (int s = 0; s < SPECIES; s++) {
                if (side[s] > MOST_NUMBER) {
                    return true;
                }
            }
            return false;
        }
    }

    /** Complexes, each told by its number for every species, and reactions between them. */
    private static final class Network {
        private final int[][] numbers = new int[MOST_COMPLEXES][SPECIES];
        private final int[] speciesIn = new int[MOST_COMPLEXES];
        private final int[] source = new int[MOST_REACTIONS];
        private final int[] target = new int[MOST_REACTIONS];
        private int complexCount;
        private int reactionCount;

        boolean has(int complex) {
            return complex >= 0 && complex < complexCount;
        }

        /** The number of a complex, which is added if it is new; NONE if it doesn't fit. */
        int place(int[] side) {
            for (int i = 0; i < complexCount; i++) {
                if (sameNumbers(numbers[i], side)) {
                    return i;
                }
            }
            if (complexCount >= MOST_COMPLEXES) {
                return NONE;
            }
            int added = complexCount;
            speciesIn[added] = 0;
            for (int s = 0; s < SPECIES; s++) {
                numbers[added][s] = side[s];
                if (side[s] > 0) {
                    speciesIn[added] |= 1 << s;
                }
            }
            complexCount++;
            return added;
        }

        /** Adds a reaction unless it is there already; false if it doesn't fit. */
        boolean join(int from, int to) {
            for (int r = 0; r < reactionCount; r++) {
                if (source[r] == from && target[r] == to) {
                    return true;
                }
            }
            if (reactionCount >= MOST_REACTIONS) {
                return false;
            }
            source[reactionCount] = from;
            target[reactionCount] = to;
            reactionCount++;
            return true;
        }

        int speciesSet() {
            int set = 0;
            for (int i = 0; i < complexCount; i++) {
                set |= speciesIn[i];
            }
            return set;
        }

        boolean isSiphon(int set) {
            for (int r = 0; r < reactionCount; r++) {
                boolean made = (speciesIn[target[r]] & set) != 0;
                boolean used = (speciesIn[source[r]] & set) != 0;
                if (made && !used) {
                    return false;
                }
            }
            return true;
        }
    }

    /** Linkage classes and strong classes. Sets of complexes are held as bits. */
    private static final class Classes {
        private final int[] joined = new int[MOST_COMPLEXES];
        private final int[] reached = new int[MOST_COMPLEXES];
        private final int[] linkageOf = new int[MOST_COMPLEXES];
        private final int[] complexesIn = new int[MOST_COMPLEXES];
        private final int[] terminalsIn = new int[MOST_COMPLEXES];
        private int linkageCount;
        private int strongCount;

        void fill(Network network) {
            int count = network.complexCount;
            for (int i = 0; i < count; i++) {
                joined[i] = 1 << i;
                reached[i] = 1 << i;
            }
            for (int r = 0; r < network.reactionCount; r++) {
                int from = network.source[r];
                int to = network.target[r];
                reached[from] |= 1 << to;
                joined[from] |= 1 << to;
                joined[to] |= 1 << from;
            }
            extend(joined, count);
            extend(reached, count);
            numberLinkages(count);
            countStrong(count);
        }

        /** A complex's class is terminal if from all that it reaches there is a way back. */
        boolean isTerminal(int complex) {
            return mutual(complex) == reached[complex];
        }

        /** Makes single steps into ways of any length. */
        private static void extend(int[] next, int count) {
            for (int over = 0; over < count; over++) {
                for (int i = 0; i < count; i++) {
                    if (holds(next[i], over)) {
                        next[i] |= next[over];
                    }
                }
            }
        }

        private void numberLinkages(int count) {
            linkageCount = 0;
            for (int i = 0; i < count; i++) {
                int least = least(joined[i]);
                if (least == i) {
                    linkageOf[i] = linkageCount;
                    complexesIn[linkageCount] = 0;
                    terminalsIn[linkageCount] = 0;
                    linkageCount++;
                } else {
                    linkageOf[i] = linkageOf[least];
                }
                complexesIn[linkageOf[i]]++;
            }
        }

        private void countStrong(int count) {
            strongCount = 0;
            for (int i = 0; i < count; i++) {
                // A strong class is counted at its least complex.
                if (least(mutual(i)) == i) {
                    strongCount++;
                    if (isTerminal(i)) {
                        terminalsIn[linkageOf[i]]++;
                    }
                }
            }
        }

        /** The strong class of a complex. */
        private int mutual(int complex) {
            int set = 0;
            for (int i = 0; i < MOST_COMPLEXES; i++) {
                if (holds(reached[complex], i) && holds(reached[i], complex)) {
                    set |= 1 << i;
                }
            }
            return set;
        }

        private static int least(int set) {
            for (int i = 0; i < MOST_COMPLEXES; i++) {
                if (holds(set, i)) {
                    return i;
                }
            }
            return 0;
        }
    }

    /** The ranks of all reactions and of those of each linkage class. */
    private static final class Ranks {
        private final Matrix reduced = new Matrix();
        private final Matrix ofOneLinkage = new Matrix();
        private final int[] ofLinkage = new int[MOST_COMPLEXES];
        private int ofNetwork;

        void fill(Network network, Classes classes) {
            for (int i = 0; i < classes.linkageCount; i++) {
                ofOneLinkage.rowCount = 0;
                for (int r = 0; r < network.reactionCount; r++) {
                    if (classes.linkageOf[network.source[r]] == i) {
                        ofOneLinkage.addVector(network, r);
                    }
                }
                ofLinkage[i] = ofOneLinkage.reduce();
            }
            reduced.rowCount = 0;
            for (int r = 0; r < network.reactionCount; r++) {
                reduced.addVector(network, r);
            }
            ofNetwork = reduced.reduce();
        }
    }

    /**
     * Rows of whole numbers, a column for each species. Reducing divides every row by its common
     * divisor, so that its numbers never grow above the determinants of the vectors' numbers (some
     * 15 million at most: seven by seven, none above 4); products of two stay far inside a long.
     */
    private static final class Matrix {
        private final long[][] rows = new long[MOST_REACTIONS][SPECIES];
        private final int[] pivotRow = new int[SPECIES];
        private int rowCount;

        void addVector(Network network, int reaction) {
            if (rowCount >= MOST_REACTIONS) {
                return;
            }
            int[] from = network.numbers[network.source[reaction]];
            int[] to = network.numbers[network.target[reaction]];
            for (int s = 0; s < SPECIES; s++) {
                rows[rowCount][s] = to[s] - from[s];
            }
            rowCount++;
        }

        void copyColumns(Matrix other, int set) {
            rowCount = other.rowCount;
            for (int r = 0; r < rowCount; r++) {
                for (int s = 0; s < SPECIES; s++) {
                    rows[r][s] = holds(set, s) ? other.rows[r][s] : 0;
                }
            }
        }

        /** Leaves as many rows as the rank, each alone in its pivot's column; answers the rank. */
        int reduce() {
            int done = 0;
            for (int column = 0; column < SPECIES; column++) {
                int found = rowWith(column, done);
                if (found < 0) {
                    pivotRow[column] = NONE;
                } else {
                    long[] row = rows[found];
                    rows[found] = rows[done];
                    rows[done] = row;
                    clearColumn(column, done);
                    pivotRow[column] = done;
                    done++;
                }
            }
            rowCount = done;
            return done;
        }

        private int rowWith(int column, int first) {
            for (int r = first; r < rowCount; r++) {
                if (rows[r][column] != 0) {
                    return r;
                }
            }
            return NONE;
        }

        private void clearColumn(int column, int pivot) {
            long lead = rows[pivot][column];
            for (int r = 0; r < rowCount; r++) {
                long factor = rows[r][column];
                if (r != pivot && factor != 0) {
                    for (int s = 0; s < SPECIES; s++) {
                        rows[r][s] = rows[r][s] * lead - rows[pivot][s] * factor;
                    }
                    shrink(rows[r]);
                }
            }
        }

        private static void shrink(long[] row) {
            long divisor = 0;
            for (int s = 0; s < SPECIES; s++) {
                divisor = commonDivisor(divisor, row[s]);
            }
            if (divisor > 1) {
                for (int s = 0; s < SPECIES; s++) {
                    row[s] /= divisor;
                }
            }
        }
    }

    /** Sets of species, by growing sums, of which none is a part of another. */
    private static final class SetList {
        private final int[] sets = new int[MOST_SETS];
        private int count;

        boolean has(int k) {
            return k >= 0 && k < count;
        }

        int at(int k) {
            return has(k) ? sets[k] : 0;
        }

        void add(int set) {
            if (count < MOST_SETS) {
                sets[count] = set;
                count++;
            }
        }

        boolean hasPartOf(int set) {
            for (int k = 0; k < count; k++) {
                if (isPart(sets[k], set)) {
                    return true;
                }
            }
            return false;
        }

        int union() {
            int all = 0;
            for (int k = 0; k < count; k++) {
                all |= sets[k];
            }
            return all;
        }
    }

    /**
     * The minimal conserved sums. A set is the support of one just if the weights on it that all
     * reactions keep are the multiples of a single row, and that row has no 0 and only one sign.
     */
    private static final class Sums {
        private final SetList supports = new SetList();
        private final int[][] weights = new int[MOST_SETS][SPECIES];
        private final Matrix part = new Matrix();

        void fill(Network network, Matrix reduced) {
            supports.count = 0;
            int species = network.speciesSet();
            for (int set = 1; set <= ALL_SPECIES; set++) {
                if (isPart(set, species) && !supports.hasPartOf(set)) {
                    part.copyColumns(reduced, set);
                    if (part.reduce() == Integer.bitCount(set) - 1) {
                        addIfPositive(set);
                    }
                }
            }
        }

        private void addIfPositive(int set) {
            int free = freeColumn(set);
            long freeWeight = 1;
            for (int s = 0; s < SPECIES; s++) {
                int row = part.pivotRow[s];
                if (row >= 0) {
                    long own = part.rows[row][s];
                    long other = part.rows[row][free];
                    if (own == 0 || other == 0 || own > 0 == other > 0) {
                        return;
                    }
                    long need = Math.abs(own) / Math.max(1, commonDivisor(own, other));
                    freeWeight *= need / Math.max(1, commonDivisor(need, freeWeight));
                }
            }
            if (supports.count < MOST_SETS) {
                fillWeights(weights[supports.count], free, freeWeight);
                supports.add(set);
            }
        }

        private int freeColumn(int set) {
            for (int s = 0; s < SPECIES; s++) {
                if (holds(set, s) && part.pivotRow[s] < 0) {
                    return s;
                }
            }
            return 0;
        }

        private void fillWeights(int[] target, int free, long freeWeight) {
            for (int s = 0; s < SPECIES; s++) {
                int row = part.pivotRow[s];
                target[s] = 0;
                if (row >= 0 && part.rows[row][s] != 0) {
                    target[s] = (int) (-freeWeight * part.rows[row][free] / part.rows[row][s]);
                }
            }
            target[free] = (int) freeWeight;
        }
    }
}
