import java.math.BigInteger;
import java.util.ArrayList;
import java.util.Arrays;
import java.util.List;
import java.util.regex.Pattern;

/**
 * What the document says of a text, worked out by other ways than the program's: a pattern for the
 * form, ranks over a prime field, and conserved sums by combining rows reaction by reaction.
 */
final class Oracle {
    private static final String TERM = "[1-9]?[A-G]";
    private static final String SIDE = "(0|" + TERM + "(\\+" + TERM + ")*)";
    private static final String LINE = SIDE + "[>=]" + SIDE;
    private static final Pattern RIGHT = Pattern.compile("(" + LINE + "(;" + LINE + ")*)?");
    private static final String[] ENDINGS = {"", "A", ">A", "A>A"};
    // No determinant of the vectors' numbers is a multiple of it but 0, as they are all smaller.
    private static final long PRIME = 1_000_000_007L;

    final List<int[]> complexes = new ArrayList<>();
    final List<int[]> reactions = new ArrayList<>();
    private List<BigInteger[]> sums;

    static boolean right(String text) {
        return RIGHT.matcher(text.replace(" ", "")).matches();
    }

    static int begun(String text) {
        for (int p = text.length(); p > 0; p--) {
            for (String ending : ENDINGS) {
                if (right(text.substring(0, p) + ending)) {
                    return p;
                }
            }
        }
        return 0;
    }

    /** The answer of read(); when it is 0 or more, this oracle then knows the network. */
    int read(String text) {
        if (!right(text)) {
            return -1 - begun(text);
        }
        String bare = text.replace(" ", "");
        if (bare.isEmpty()) {
            return 0;
        }
        for (String line : bare.split(";")) {
            String[] sides = line.split("[>=]");
            int[] left = side(sides[0]);
            int[] right = side(sides[1]);
            if (Math.max(Arrays.stream(left).max().getAsInt(),
                Arrays.stream(right).max().getAsInt()) > 4) {
                return -200;
            }
            if (Arrays.equals(left, right)) {
                return -201;
            }
            int from = indexOrAdd(complexes, left);
            int to = indexOrAdd(complexes, right);
            if (complexes.size() > 9) {
                return -202;
            }
            indexOrAdd(reactions, new int[] {from, to});
            if (line.indexOf('=') >= 0) {
                indexOrAdd(reactions, new int[] {to, from});
            }
            if (reactions.size() > 10) {
                return -203;
            }
        }
        return reactions.size();
    }

    private static int[] side(String text) {
        int[] numbers = new int[7];
        if (!text.equals("0")) {
            for (String term : text.split("\\+")) {
                int digit = term.length() == 2 ? term.charAt(0) - '0' : 1;
                numbers[term.charAt(term.length() - 1) - 'A'] += digit;
            }
        }
        return numbers;
    }

    private static int indexOrAdd(List<int[]> list, int[] row) {
        for (int i = 0; i < list.size(); i++) {
            if (Arrays.equals(list.get(i), row)) {
                return i;
            }
        }
        list.add(row);
        return list.size() - 1;
    }

    int species(int complex) {
        int set = 0;
        for (int s = 0; s < 7; s++) {
            set += complexes.get(complex)[s] > 0 ? 1 << s : 0;
        }
        return set;
    }

    int occurring() {
        int set = 0;
        for (int i = 0; i < complexes.size(); i++) {
            set |= species(i);
        }
        return set;
    }

    /** Whether there is a way, over reactions forward alone or both ways. */
    boolean way(int from, int to, boolean bothWays) {
        boolean[] seen = new boolean[complexes.size()];
        seen[from] = true;
        for (int round = 0; round < complexes.size(); round++) {
            for (int[] r : reactions) {
                seen[r[1]] |= seen[r[0]];
                seen[r[0]] |= bothWays && seen[r[1]];
            }
        }
        return seen[to];
    }

    int linkageOf(int complex) {
        int classes = 0;
        for (int i = 0; i < complexes.size(); i++) {
            if (way(i, complex, true)) {
                return classes;
            }
            boolean first = true;
            for (int j = 0; j < i; j++) {
                first &= !way(j, i, true);
            }
            classes += first ? 1 : 0;
        }
        return -1;
    }

    int linkages() {
        int most = -1;
        for (int i = 0; i < complexes.size(); i++) {
            most = Math.max(most, linkageOf(i));
        }
        return most + 1;
    }

    boolean together(int i, int j) {
        return way(i, j, false) && way(j, i, false);
    }

    private boolean firstOfStrong(int i) {
        for (int j = 0; j < i; j++) {
            if (together(i, j)) {
                return false;
            }
        }
        return true;
    }

    int strongs() {
        int count = 0;
        for (int i = 0; i < complexes.size(); i++) {
            count += firstOfStrong(i) ? 1 : 0;
        }
        return count;
    }

    boolean terminal(int complex) {
        for (int[] r : reactions) {
            if (together(complex, r[0]) && !together(complex, r[1])) {
                return false;
            }
        }
        return true;
    }

    private int[] vector(int[] reaction) {
        int[] v = new int[7];
        for (int s = 0; s < 7; s++) {
            v[s] = complexes.get(reaction[1])[s] - complexes.get(reaction[0])[s];
        }
        return v;
    }

    /** The rank of a linkage class's reactions, or of all for -1. */
    int rank(int linkage) {
        List<long[]> basis = new ArrayList<>();
        for (int[] r : reactions) {
            if (linkage < 0 || linkageOf(r[0]) == linkage) {
                long[] row = Arrays.stream(vector(r)).mapToLong(n -> Math.floorMod(n, PRIME))
                    .toArray();
                for (long[] b : basis) {
                    int lead = lead(b);
                    long factor = row[lead] * inverse(b[lead]) % PRIME;
                    for (int s = 0; s < 7; s++) {
                        row[s] = Math.floorMod(row[s] - factor * b[s] % PRIME, PRIME);
                    }
                }
                if (lead(row) < 7) {
                    basis.add(row);
                }
            }
        }
        return basis.size();
    }

    private static int lead(long[] row) {
        int s = 0;
        while (s < 7 && row[s] == 0) {
            s++;
        }
        return s;
    }

    private static long inverse(long n) {
        return BigInteger.valueOf(n).modInverse(BigInteger.valueOf(PRIME)).longValue();
    }

    int deficiency(int linkage) {
        if (linkage == -1) {
            return complexes.size() - linkages() - rank(-1);
        }
        if (linkage < -1 || linkage >= linkages()) {
            return -1;
        }
        int size = 0;
        for (int i = 0; i < complexes.size(); i++) {
            size += linkageOf(i) == linkage ? 1 : 0;
        }
        return size - 1 - rank(linkage);
    }

    private boolean siphon(int set) {
        if (set == 0 || (set & occurring()) != set) {
            return false;
        }
        for (int[] r : reactions) {
            if ((species(r[1]) & set) != 0 && (species(r[0]) & set) == 0) {
                return false;
            }
        }
        return true;
    }

    List<Integer> siphons() {
        List<Integer> found = new ArrayList<>();
        boolean[] is = new boolean[128];
        for (int set = 0; set < 128; set++) {
            is[set] = siphon(set);
        }
        for (int set = 0; set < 128; set++) {
            boolean minimal = is[set];
            for (int part = 0; part < 128; part++) {
                minimal &= part == set || (part & set) != part || !is[part];
            }
            if (minimal) {
                found.add(set);
            }
        }
        return found;
    }

    /** Rows of weights: from one row for each species, reaction by reaction. */
    List<BigInteger[]> sums() {
        if (sums != null) {
            return sums;
        }
        List<BigInteger[]> rows = new ArrayList<>();
        for (int s = 0; s < 7; s++) {
            if ((occurring() >> s & 1) != 0) {
                BigInteger[] row = new BigInteger[7];
                Arrays.fill(row, BigInteger.ZERO);
                row[s] = BigInteger.ONE;
                rows.add(row);
            }
        }
        for (int[] r : reactions) {
            rows = minimal(kept(rows, vector(r)));
        }
        rows.sort((a, b) -> Integer.compare(support(a), support(b)));
        sums = rows;
        return rows;
    }

    private static List<BigInteger[]> kept(List<BigInteger[]> rows, int[] vector) {
        List<BigInteger[]> next = new ArrayList<>();
        for (BigInteger[] a : rows) {
            BigInteger da = dot(a, vector);
            if (da.signum() == 0) {
                next.add(a);
            }
            for (BigInteger[] b : rows) {
                BigInteger db = dot(b, vector);
                if (da.signum() > 0 && db.signum() < 0) {
                    BigInteger[] row = new BigInteger[7];
                    BigInteger divisor = BigInteger.ZERO;
                    for (int s = 0; s < 7; s++) {
                        row[s] = a[s].multiply(db.negate()).add(b[s].multiply(da));
                        divisor = divisor.gcd(row[s]);
                    }
                    for (int s = 0; s < 7; s++) {
                        row[s] = row[s].divide(divisor);
                    }
                    next.add(row);
                }
            }
        }
        return next;
    }

    private static List<BigInteger[]> minimal(List<BigInteger[]> rows) {
        List<BigInteger[]> least = new ArrayList<>();
        for (int i = 0; i < rows.size(); i++) {
            boolean stays = true;
            for (int j = 0; j < rows.size(); j++) {
                int mine = support(rows.get(i));
                int other = support(rows.get(j));
                stays &= i == j || (other & mine) != other || other == mine && j > i;
            }
            if (stays) {
                least.add(rows.get(i));
            }
        }
        return least;
    }

    private static BigInteger dot(BigInteger[] row, int[] vector) {
        BigInteger sum = BigInteger.ZERO;
        for (int s = 0; s < 7; s++) {
            sum = sum.add(row[s].multiply(BigInteger.valueOf(vector[s])));
        }
        return sum;
    }

    static int support(BigInteger[] row) {
        int set = 0;
        for (int s = 0; s < 7; s++) {
            set += row[s].signum() > 0 ? 1 << s : 0;
        }
        return set;
    }

    boolean conserved(int set) {
        for (BigInteger[] row : sums()) {
            if ((support(row) & set) == support(row)) {
                return true;
            }
        }
        return false;
    }

    int flags() {
        boolean oneStrong = true;
        for (int i = 0; i < complexes.size(); i++) {
            for (int j = 0; j < complexes.size(); j++) {
                oneStrong &= linkageOf(i) != linkageOf(j) || together(i, j);
            }
        }
        boolean siphonsConserved = true;
        for (int set : siphons()) {
            siphonsConserved &= conserved(set);
        }
        int covered = 0;
        for (BigInteger[] row : sums()) {
            covered |= support(row);
        }
        return (oneStrong ? 1 : 0) + (oneStrong && deficiency(-1) == 0 ? 2 : 0)
            + (nearlySimple() ? 4 : 0) + (siphonsConserved ? 8 : 0)
            + (covered == occurring() ? 16 : 0);
    }

    private boolean nearlySimple() {
        int total = 0;
        for (int k = 0; k < linkages(); k++) {
            int ends = 0;
            for (int i = 0; i < complexes.size(); i++) {
                ends += linkageOf(i) == k && firstOfStrong(i) && terminal(i) ? 1 : 0;
            }
            if (ends != 1 || deficiency(k) > 1) {
                return false;
            }
            total += deficiency(k);
        }
        return total == deficiency(-1);
    }
}
