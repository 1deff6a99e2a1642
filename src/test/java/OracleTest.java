import java.math.BigInteger;
import java.util.List;
import java.util.Random;

/** All promises on many made-up texts, right and wrong, against the oracle. The seed is fixed. */
public final class OracleTest {
    private static final int TEXTS = 12_000;
    private static final String SIGNS = "ABCDEFG0123456789+>=; H?";

    public static void main(String[] args) {
        Due due = new Due("OracleTest");
        Random random = new Random(20261115);
        SiphonReport x = new SiphonReport();
        Oracle known = new Oracle();
        int calls = 0;
        int right = 0;
        for (int i = 0; i < TEXTS; i++) {
            String text = text(random);
            // An object is promised to answer 512 calls; its former networks are to leave no trace.
            if (calls + text.length() + 402 > 512) {
                x = new SiphonReport();
                known = new Oracle();
                calls = 0;
            }
            Due.retype(x, text);
            Oracle next = new Oracle();
            int want = next.read(text);
            due.is("read() of [" + text + "]", x.read(), want);
            calls += text.length() + 2;
            if (want >= 0) {
                known = next;
                right++;
            }
            if (i % 4 == 0 || want >= 0) {
                calls += compare(due, "[" + text + "]: ", x, known);
            }
        }
        due.is("enough right texts (" + right + ")", right > TEXTS / 3, true);
        due.end();
    }

    private static int compare(Due due, String at, SiphonReport x, Oracle o) {
        due.is(at + "reactions()", x.reactions(), o.reactions.size());
        due.is(at + "complexes()", x.complexes(), o.complexes.size());
        due.is(at + "occurring()", x.occurring(), o.occurring());
        due.is(at + "linkage()", x.linkage(), o.linkages());
        due.is(at + "strong()", x.strong(), o.strongs());
        due.is(at + "rank()", x.rank(), o.rank(-1));
        due.is(at + "flags()", x.flags(), o.flags());
        int calls = 7;
        for (int k = -2; k <= o.linkages(); k++) {
            due.is(at + "deficiency(" + k + ")", x.deficiency(k), o.deficiency(k));
            calls++;
        }
        for (int i = 0; i < o.complexes.size(); i++) {
            due.is(at + "classOf(" + i + ")", x.classOf(i), o.linkageOf(i));
            due.is(at + "terminal(" + i + ")", x.terminal(i), o.terminal(i));
            for (int s = 0; s < 7; s++) {
                due.is(at + "coefficient(" + i + ", " + s + ")", x.coefficient(i, s),
                    o.complexes.get(i)[s]);
            }
            calls += 9;
        }
        return calls + compareSets(due, at, x, o);
    }

    private static int compareSets(Due due, String at, SiphonReport x, Oracle o) {
        List<Integer> siphons = o.siphons();
        due.is(at + "siphons()", x.siphons(), siphons.size());
        for (int k = 0; k < siphons.size(); k++) {
            due.is(at + "siphon(" + k + ")", x.siphon(k), siphons.get(k));
            due.is(at + "conserved(" + k + ")", x.conserved(k), o.conserved(siphons.get(k)));
        }
        List<BigInteger[]> sums = o.sums();
        due.is(at + "sums()", x.sums(), sums.size());
        for (int k = 0; k < sums.size(); k++) {
            due.is(at + "support(" + k + ")", x.support(k), Oracle.support(sums.get(k)));
            for (int s = 0; s < 7; s++) {
                due.is(at + "weight(" + k + ", " + s + ")", x.weight(k, s),
                    sums.get(k)[s].longValueExact());
            }
        }
        return 2 + 2 * siphons.size() + 8 * sums.size();
    }

    private static String text(Random random) {
        StringBuilder b = new StringBuilder();
        int species = 1 + random.nextInt(7);
        int most = random.nextInt(3) == 0 ? 4 : 1 + random.nextInt(2);
        int terms = 1 + random.nextInt(3);
        int lines = random.nextInt(8);
        String[] sides = new String[3 + random.nextInt(7)];
        int[] masses = random.nextInt(3) == 0 ? masses(random) : new int[7];
        for (int i = 0; i < sides.length; i++) {
            sides[i] = side(random, species, most, terms);
            // Sides of one mass make networks with a conserved sum, often of large weights.
            int want = mass(sides[0], masses);
            for (int t = 0; t < 1000 && mass(sides[i], masses) != want; t++) {
                sides[i] = side(random, species, most, terms);
            }
        }
        for (int i = 0; i < lines; i++) {
            int left = random.nextInt(sides.length);
            int right = (left + 1 + random.nextInt(sides.length - 1)) % sides.length;
            // Few lines keep two sides that are alike, or most texts would have that fault.
            if (!sides[left].equals(sides[right]) || random.nextInt(20) == 0) {
                b.append(b.length() == 0 ? "" : ";").append(sides[left]);
                b.append(random.nextInt(3) == 0 ? '=' : '>').append(sides[right]);
            }
        }
        if (random.nextInt(3) == 0) {
            change(random, b);
        }
        b.setLength(Math.min(100, b.length()));
        return b.toString();
    }

    private static String side(Random random, int species, int most, int terms) {
        if (random.nextInt(12) == 0) {
            return "0";
        }
        StringBuilder b = new StringBuilder();
        int count = 1 + random.nextInt(terms);
        for (int i = 0; i < count; i++) {
            b.append(i == 0 ? "" : "+");
            int digit = 1 + random.nextInt(most);
            b.append(digit == 1 ? "" : String.valueOf(digit));
            b.append((char) ('A' + random.nextInt(species)));
        }
        return b.toString();
    }

    private static int[] masses(Random random) {
        int[] masses = new int[7];
        for (int s = 0; s < 7; s++) {
            masses[s] = 1 + random.nextInt(5);
        }
        return masses;
    }

    private static int mass(String side, int[] masses) {
        int sum = 0;
        int digit = 1;
        for (char c : side.toCharArray()) {
            if (c >= 'A') {
                sum += digit * masses[c - 'A'];
                digit = 1;
            } else if (c >= '1' && c <= '9') {
                digit = c - '0';
            }
        }
        return sum;
    }

    private static void change(Random random, StringBuilder b) {
        int times = 1 + random.nextInt(3);
        for (int i = 0; i < times; i++) {
            int at = random.nextInt(b.length() + 1);
            if (random.nextBoolean() || at == b.length()) {
                b.insert(at, SIGNS.charAt(random.nextInt(SIGNS.length())));
            } else if (random.nextBoolean()) {
                b.setCharAt(at, SIGNS.charAt(random.nextInt(SIGNS.length())));
            } else {
                b.deleteCharAt(at);
            }
        }
    }
}
