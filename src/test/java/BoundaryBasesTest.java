import java.util.ArrayList;
import java.util.List;
import java.util.function.Supplier;

/** The boundary cases of the promises 16 to 20, and of what the document says of remainders, ideals, bases and staircases. */
public final class BoundaryBasesTest {
    private static final int BAD = Boundary.BAD, NO = Boundary.NO;
    private static final int MAX = Boundary.MAX, MIN = Boundary.MIN;
    private static final String SET = "set: the set of the operators as a bit mask (bit k stands for operator k), not empty";
    private static final String ABOVE_3 = "NO if an operator of the set has a degree above 3.";
    /** No sets: empty, the first bit that is too much with others and without, the sign, all bits. */
    private static final int[] NO_SETS = {0, 64, 65, 127, 128, 1 << 30, MAX, -1, -2, -64, MIN, MIN | 1};

    private static void sentence(int promise, String text) {
        Boundary.sentence(promise, text);
    }

    private static void due(String call, long got, long want) {
        Boundary.due(call, got, want);
    }

    private static void due(String call, String got, String want) {
        Boundary.due(call, got, want);
    }

    public static void main(String[] args) throws Exception {
        divisible();
        remainder();
        lowestNumber();
        ideal();
        reducedBasis();
        unique();
        staircase();
        degreesOfBases();
        manySets();
        twoSets();
        againAndAgain();
        presentOperators();
        oneWordEach();
        alikeOperators();
        rest();
        restRefused();
        basis();
        based();
        basedOutside();
        stairs();
        within();
        withinOutside();
        setsOfBits();
        degreesAbove3();
        Boundary.finish(16, 20);
    }

    private static Boundary.Probe fresh() {
        return new Boundary.Probe();
    }

    /** Operators that all make 0 of x^2 (0 to 2), the operator 0 (3), one of degree 4 (4), and one of degree 12 (5). */
    private static Boundary.Probe squares() {
        Boundary.Probe p = Boundary.with("x*d-2", "d^3", "x*d^2-d", "0", "x^2*d^2-2", "x^10*d^2-2*x^10+1");
        p.told(6);
        p.rest(0, 0, 8);
        p.times(0, 5, 5);
        p.order(0);
        return p;
    }

    // ---- the description

    private static void divisible() {
        sentence(0, "A word (i, j) is divisible by (a, b) if a <= i and b <= j.");
        for (int a = 0; a <= 4; a++) {
            for (int b = 0; a + b <= 4; b++) {
                Boundary.Probe p = fresh();
                p.sets(0, a, b, 1);
                for (int i = 0; i <= 6; i++) {
                    for (int j = 0; i + j <= 6; j++) {
                        p.sets(1, i, j, 1);
                        p.rest(2, 1, 1);
                        due("x^" + i + " d^" + j + " by x^" + a + " d^" + b, p.at(2, i, j), a <= i && b <= j ? 0 : 1);
                        p.sets(1, i, j, 0);
                    }
                }
            }
        }
    }

    /** The remainder of the last of the operators by all the others, in a set that begins with operator 0. */
    private static String remainder(int order, String... texts) {
        Boundary.Probe p = Boundary.with(texts);
        p.order(order);
        p.rest(5, texts.length - 1, (1 << (texts.length - 1)) - 1);
        return p.text(5);
    }

    private static void remainder() {
        sentence(0, "While A is not 0, let c (i, j) be its lead.");
        due("of 0", remainder(0, "x", "0"), "0");
        due("lead d^2 by order 0", remainder(0, "d^2+x^2", "d^2-x^2"), "-2*x^2");
        due("lead x^2 by order 1", remainder(1, "d^2+x^2", "d^2-x^2"), "2*d^2");
        due("down to the number", remainder(0, "d-1", "d^12"), "1");
        due("down to the number", remainder(0, "x-1", "x^12+x^11"), "2");
        due("by a number", remainder(0, "7", "5*x^6*d^6+x-3"), "0");
        sentence(0, "subtract from A the product of c / e, the word (i - a, j - b), and this operator, in this order.");
        due("d (x d) is x d^2 + d", remainder(0, "x*d", "x*d^2"), "-d");
        due("(x d) x is not x (x d)", remainder(0, "x*d", "x^2*d+x"), "x");
        due("6/4 of 2", remainder(0, "4*x+2", "6*x"), "-3");
        due("1/3", remainder(0, "3*x+1", "x"), "-3336");
        due("5003/5003", remainder(0, "5003*x+1", "5003*x"), "-1");
        due("5003/-5003", remainder(0, "-5003*x+1", "5003*x"), "1");
        due("1/5003, which is -2", remainder(0, "5003*x+1", "x"), "2");
        due("the lead itself", remainder(0, "x^6*d^6", "x^6*d^6"), "0");
        due("one less", remainder(0, "x^6*d^6", "x^6*d^5"), "x^6*d^5");
        due("d^6 x^6", remainder(0, "x^6", "d^6*x^6-x^6*d^6"), "36*x^5*d^5+450*x^4*d^4+2400*x^3*d^3-4607*x^2*d^2+4320*x*d+720");
        sentence(0, "Otherwise move the term c (i, j) from A to the remainder.");
        due("a greater term stays", remainder(0, "x-2", "d^3+x"), "d^3+2");
        // by order 0 the lead of d - x^2 is x^2; d^2 x is x d^2 + 2 d
        due("terms between stay", remainder(0, "d-x^2", "d^2*x+x*d+x^2"), "x*d^2+x*d+3*d");
        due("all terms stay", remainder(0, "x*d", "5*d^12-x^12+d+x-1"), "5*d^12-x^12+d+x-1");
        due("none is divisible by a greater word", remainder(0, "d^3", "d^2+x^12"), "x^12+d^2");
    }

    private static void lowestNumber() {
        sentence(0, "If there are operators in the set by whose lead's word (i, j) is divisible, take the one with the lowest number; if its lead is e (a, b), subtract from A the product of c / e, the word (i - a, j - b), and this operator, in this order.");
        for (int t = 0; t < 6; t++) {
            for (int set = 1; set < 64; set++) {
                // x - (t + 1) less x - (k + 1)
                Boundary.Probe p = Boundary.with("x-1", "x-2", "x-3", "x-4", "x-5", "x-6");
                int k = Integer.numberOfTrailingZeros(set);
                due("rest(5, " + t + ", " + set + ")", p.rest(5, t, set), k == t ? 0 : 1);
                due("its number", p.at(5, 0, 0), k - t);
            }
        }
        due("a greater number with a greater lead", remainder(0, "x-1", "x^2-5", "x^2"), "1");
        due("a lower number with a greater lead", remainder(0, "x^2-5", "x-1", "x^2"), "5");
        due("a lower number that does not divide", remainder(0, "x^3-5", "x-1", "x^2"), "1");
        due("first the one, then the other", remainder(0, "x^2-d", "d-3", "x^2"), "3");
        due("again from the lowest on", remainder(0, "d-3", "x^2-d", "x^2"), "3");
    }

    private static int within(String t, String... set) {
        Boundary.Probe p = Boundary.with(set);
        p.read(5, t);
        return p.within(5, (1 << set.length) - 1);
    }

    private static void ideal() {
        sentence(0, "The left ideal of a set of operators consists of all sums of products A B, where A is any operator (of any degree) and B is in the set.");
        due("x d is A d", within("x*d", "d"), 1);
        due("d x is not", within("d*x", "d"), 0);
        due("d x is A x", within("d*x", "x"), 1);
        due("x d is not", within("x*d", "x"), 0);
        due("d x - x d is in that of x and d", within("1", "x", "d"), 1);
        due("0 times something", within("0", "x"), 1);
        due("1 times it", within("x*d^2-7*x+1", "x*d^2-7*x+1"), 1);
        due("a number times it", within("-5003*x*d-3", "5003*x*d+3"), 1);
        due("it and 1", within("x*d^2-7*x+2", "x*d^2-7*x+1"), 0);
        due("0 makes 0 alone", within("1", "0"), 0);
        due("0 makes 0", within("0", "0"), 1);
        due("A of degree 9", within("(x^4*d^5+3*d^2-1)*(d^3-x)", "d^3-x"), 1);
        due("A on the other side", within("(d^3-x)*(x^4*d^5+3*d^2-1)", "d^3-x"), 0);
        due("A of degree 11", within("x^12", "x"), 1);
        due("A of degree 12", within("x^6*d^6", "7"), 1);
    }

    private static final String[][] SETS = {{"x*d-2", "d^3"}, {"x*d^2-2*d", "d^3+2*x*d-6"}, {"d^2+x*d-2", "d^3"},
        {"4*(x+d)^2*d-d^2-16*(x+d)", "d^3-8*(x+d)*d+32"}, {"x*d^2-4*x^2*d-d+16*x", "d^3-24*x^2*d+12*d+96*x"}, {"x^2*d", "x*d^2+2*d"},
        {"x^3", "x*d+3"}, {"x^2*d+4*x", "x^3+2*x*d+8"}, {"5*x^3-d^3+x*d"}, {"0", "3*x*d^2-6", "0"}, {"d", "x", "x*d"}, {"d^3", "x^3"}, {"7"},
        {"x*d^2", "d^3+3*x*d"}, {"d^3", "x^2*d-2*x"}, {"x^2*d-2*x", "d^3", "x*d-2"}, {"x*d+2", "x^3"}, {"d^2", "x^2*d"}, {"d^2", "d"},
        {"x*d", "d^3-x"}, {"d^3", "x^3", "x*d+2"}, {"x^3", "d^2"}, {"d", "x^3"}};
    /** Their reduced bases by order 0 and order 1. */
    private static final String[][][] BASES = {{{"x*d-2", "d^3"}, {"x*d-2", "d^3"}},
        {{"x^2*d-5003*d^2-3*x", "x*d^2-2*d", "d^3+2*x*d-6"}, {"d^3+2*x*d-6", "x*d^2-2*d", "x^2*d-5003*d^2-3*x"}},
        {{"d^2+x*d-2", "x^2*d+d-2*x"}, {"x*d+d^2-2", "d^3"}},
        {{"x*d^2-5003*x^2*d-1247*d^2+4*x*d+5002*d-2*x-16", "d^3-8*d^2-8*x*d+32",
            "x^3*d+1247*x^2*d+2223*d^2+38*x*d-4*x^2-3765*d-4988*x-140"},
            {"d^3-8*x*d-8*d^2+32", "x^2*d+2*x*d^2+8*x*d-2494*d^2-4*x-3*d-32"}},
        {{"x*d^2-4*x^2*d-d+16*x", "d^3-24*x^2*d+12*d+96*x", "x^3*d-x*d-4*x^2+2"},
            {"x*d^2-1668*d^3-3*d", "x^2*d-417*d^3-4*x+5003*d", "d^4-72*x*d+12*d^2+288"}},
        {{"x^2*d", "x*d^2+2*d"}, {"x*d^2+2*d", "x^2*d"}}, {{"x*d+3", "x^3"}, {"x*d+3", "x^3"}},
        {{"x^3+2*x*d+8", "x^2*d+4*x", "x*d^2+5003*x^2+5*d"}, {"x*d^2+5003*x^2+5*d", "x^2*d+4*x", "x^3+2*x*d+8"}},
        {{"d^3-5*x^3-x*d"}, {"x^3-4003*d^3+4003*x*d"}}, {{"x*d^2-2"}, {"x*d^2-2"}}, {{"1"}, {"1"}}, {{"1"}, {"1"}}, {{"1"}, {"1"}},
        {{"d"}, {"d"}}, {{"x*d-2", "d^3"}, {"x*d-2", "d^3"}}, {{"x*d-2", "d^3"}, {"x*d-2", "d^3"}}, {{"x^2", "x*d+2"}, {"x*d+2", "x^2"}},
        {{"d"}, {"d"}}, {{"d"}, {"d"}}, {{"1"}, {"1"}}, {{"1"}, {"1"}}, {{"1"}, {"1"}}, {{"1"}, {"1"}}};

    /** The operators of a basis, of which no term is above degree 5, as texts. */
    private static List<String> parts(Boundary.Probe p, int set) {
        List<String> texts = new ArrayList<>();
        int count = p.basis(set);
        for (int k = 0; k < count; k++) {
            Boundary.Probe q = fresh();
            q.order(p.told(4));
            for (int i = 0; i <= 5; i++) {
                for (int j = 0; i + j <= 5; j++) {
                    q.sets(0, i, j, p.based(set, k, i, j));
                }
            }
            texts.add(q.text(0));
        }
        return texts;
    }

    private static void reducedBasis() {
        for (int n = 0; n < SETS.length; n++) {
            for (int order = 0; order < 2; order++) {
                Boundary.Probe p = Boundary.with(SETS[n]);
                p.order(order);
                sentence(0, "Its reduced basis is the sequence of operators of the ideal such that");
                List<String> found = parts(p, (1 << SETS[n].length) - 1);
                due("of " + String.join(", ", SETS[n]) + " by order " + order, found.toString(), List.of(BASES[n][order]).toString());
                leadsAndTails(order, found);
                ascending(order, found);
                crossed(order, found, SETS[n]);
            }
        }
    }

    /** A basis as the operators 0, 1, .. of an object. */
    private static Boundary.Probe ofBasis(int order, List<String> basis) {
        Boundary.Probe p = Boundary.with(basis.toArray(new String[0]));
        p.order(order);
        return p;
    }

    private static void leadsAndTails(int order, List<String> basis) {
        for (int m = 0; m < basis.size(); m++) {
            Boundary.Probe p = ofBasis(order, basis);
            int a = p.of(m, 6), b = p.of(m, 7);
            for (int k = 0; k < basis.size(); k++) {
                sentence(0, "the lead of each of the sequence has the coefficient 1, and is not divisible by the word of the lead of another one of the sequence");
                due("the coefficient of the lead of " + basis.get(k), p.of(k, 8), 1);
                due(basis.get(k) + " is led by a multiple of another's lead", m != k && a <= p.of(k, 6) && b <= p.of(k, 7) ? 1 : 0, 0);
                sentence(0, "no other term of one of the sequence is divisible by the word of the lead of any of the sequence");
                for (int i = a; i <= 5; i++) {
                    for (int j = b; i + j <= 5; j++) {
                        due(basis.get(k) + " at (" + i + ", " + j + ")", p.at(k, i, j), m == k && i == a && j == b ? 1 : 0);
                    }
                }
            }
        }
    }

    private static void ascending(int order, List<String> basis) {
        sentence(0, "the leads are in ascending order.");
        for (int k = 1; k < basis.size(); k++) {
            // the sum of two is led by the greater word
            Boundary.Probe p = ofBasis(order, basis);
            p.sums(5, k - 1, 1, k, 1);
            due("i of the greater lead", p.of(5, 6), p.of(k, 6));
            due("j of the greater lead", p.of(5, 7), p.of(k, 7));
        }
    }

    /** The leads of a basis divide all leads, as all pairs of its operators and the operators of the set leave nothing. */
    private static void crossed(int order, List<String> basis, String[] set) {
        sentence(0, "the lead of each operator of the ideal other than 0 is divisible by the word of the lead of one of the sequence");
        int bits = (1 << basis.size()) - 1;
        for (String text : set) {
            Boundary.Probe p = ofBasis(order, basis);
            p.read(5, text);
            due("the rest of " + text, p.rest(5, 5, bits), 0);
        }
        for (int k = 0; k < basis.size(); k++) {
            for (int m = 0; m < k; m++) {
                Boundary.Probe p = ofBasis(order, basis);
                int i = Math.max(p.of(k, 6), p.of(m, 6)), j = Math.max(p.of(k, 7), p.of(m, 7));
                p.sets(4, i - p.of(k, 6), j - p.of(k, 7), 1);
                p.sets(5, i - p.of(m, 6), j - p.of(m, 7), 1);
                p.times(4, 4, k);
                p.times(5, 5, m);
                p.sums(5, 5, 1, 4, -1);
                due("the rest of the pair of " + basis.get(k) + " and " + basis.get(m), p.rest(5, 5, bits), 0);
            }
        }
    }

    private static void unique() {
        sentence(0, "It is unique, and empty if the set has no operator other than 0.");
        String[][] same = {{"x*d-2", "d^3"}, {"d^3", "x*d-2"}, {"5*x*d-10", "-3*d^3"}, {"d^3+x*d-2", "x*d-2"}, {"x*d-2", "d^3+5*x*d-10"},
            {"x*d-2", "d^3", "x*d^2-d"}, {"0", "x*d-2", "0", "d^3"}, {"x*d-2", "x*d-2", "d^3", "d^3"}, {"x^2*d-2*x", "x*d-2", "d^3+x^2*d-2*x"}};
        for (String[] set : same) {
            for (int order = 0; order < 2; order++) {
                Boundary.Probe p = Boundary.with(set);
                p.order(order);
                due("of " + String.join(", ", set), parts(p, (1 << set.length) - 1).toString(), "[x*d-2, d^3]");
            }
        }
        for (int set = 1; set < 64; set++) {
            Boundary.Probe p = fresh();
            due("basis(" + set + ") at first", p.basis(set), 0);
            due("based(" + set + ", 0, 0, 0) at first", p.based(set, 0, 0, 0), 0);
            for (int n = 0; n <= 20; n++) {
                due("stairs(" + set + ", " + n + ") at first", p.stairs(set, n), n + 1);
            }
            due("within(0, " + set + ") of 0", p.within(0, set), 1);
            p.sets(0, 0, 0, 1);
            due("within(0, " + set + ") of 1", p.within(0, set), set % 2);
            due("basis(" + set + ") with 1 as operator 0", p.basis(set), set % 2);
        }
    }

    private static void staircase() {
        sentence(0, "A word is on the staircase if it is not divisible by the word of the lead of any of the basis.");
        for (int a = 0; a <= 3; a++) {
            for (int b = 0; a + b <= 3; b++) {
                Boundary.Probe p = fresh();
                p.sets(2, a, b, -5003);
                p.sets(2, 0, 0, 1);
                for (int n = 0; n <= 20; n++) {
                    int covered = Math.max(0, n - a - b + 1);
                    due("of x^" + a + " d^" + b + " in degree " + n, p.stairs(4, n), n + 1 - covered);
                }
            }
        }
        for (int n = 0; n < SETS.length; n++) {
            for (int order = 0; order < 2; order++) {
                // the leads of the basis that is due
                Boundary.Probe basis = ofBasis(order, List.of(BASES[n][order]));
                int[][] leads = new int[BASES[n][order].length][];
                for (int k = 0; k < leads.length; k++) {
                    leads[k] = new int[] {basis.of(k, 6), basis.of(k, 7)};
                }
                Boundary.Probe p = Boundary.with(SETS[n]);
                p.order(order);
                for (int degree = 0; degree <= 20; degree++) {
                    due("of " + String.join(", ", SETS[n]) + " in degree " + degree, p.stairs((1 << SETS[n].length) - 1, degree),
                        uncovered(leads, degree));
                }
            }
        }
    }

    private static int uncovered(int[][] leads, int degree) {
        int count = 0;
        for (int j = 0; j <= degree; j++) {
            boolean covered = false;
            for (int[] lead : leads) {
                covered |= lead[0] <= degree - j && lead[1] <= j;
            }
            count += covered ? 0 : 1;
        }
        return count;
    }

    private static void degreesOfBases() {
        sentence(0, "Bases are computed only for sets of operators of degree 3 or less; the degrees in such a basis are at most 15.");
        Boundary.Probe p = Boundary.with("x*d^2-4*x^2*d-d+16*x", "d^3-24*x^2*d+12*d+96*x");
        due("the third is led by x^3 d", p.based(3, 2, 3, 1), 1);
        p.order(1);
        due("by order 1 it is led by d^4", p.based(3, 2, 0, 4), 1);
        for (int i = 0; i <= 15; i++) {
            for (int j = 0; j <= 15; j++) {
                if (i + j > 4) {
                    due("nothing else at (" + i + ", " + j + ")", p.based(3, 2, i, j), 0);
                }
            }
        }
        Boundary.Probe q = Boundary.with("x^3+d^3-x*d^2-7", "x^2*d^2");
        due("degree 3", q.basis(1), 1);
        due("degree 4", q.basis(2), NO);
    }

    private static final String[] MANY = {"x*d^2-2*d", "d^3+2*x*d-6", "x^2*d-5003*d^2-3*x", "x*d-2", "d^3", "3*x^3+x"};

    /** One object that is asked for one basis after the other tells the same of each as an object that is asked for one alone. */
    private static void manySets() {
        sentence(0, "It is unique, and empty if the set has no operator other than 0.");
        for (int order = 0; order < 2; order++) {
            for (int word = 0; word < 4; word++) {
                Boundary.Probe p = ofBasis(order, List.of(MANY));
                for (int n = 0; n < 63; n++) {
                    int set = word % 2 == 0 ? n + 1 : 63 - n;
                    Boundary.Probe alone = ofBasis(order, List.of(MANY));
                    for (int k = 0; k < 4; k++) {
                        due("based(" + set + ", " + k + ", " + (3 - word) + ", " + word + ")", p.based(set, k, 3 - word, word),
                            alone.based(set, k, 3 - word, word));
                    }
                    due("basis(" + set + ")", p.basis(set), alone.basis(set));
                    due("stairs(" + set + ", " + word + ")", p.stairs(set, word), alone.stairs(set, word));
                }
            }
            Boundary.Probe p = ofBasis(order, List.of(MANY));
            for (int n = 0; n < 63; n++) {
                int set = n % 2 == 0 ? n + 1 : 64 - n;
                Boundary.Probe alone = ofBasis(order, List.of(MANY));
                for (int t = 0; t < 6; t++) {
                    due("within(" + t + ", " + set + ")", p.within(t, set), alone.within(t, set));
                }
            }
        }
    }

    /** Of two sets in one object each has its own basis, whatever has been asked before. */
    private static void twoSets() {
        sentence(0, "It is unique, and empty if the set has no operator other than 0.");
        for (int n = 0; n < SETS.length; n++) {
            for (int m = 0; m < SETS.length; m++) {
                if (SETS[n].length + SETS[m].length > 6) {
                    continue;
                }
                for (int order = 0; order < 2; order++) {
                    List<String> both = new ArrayList<>(List.of(SETS[n]));
                    both.addAll(List.of(SETS[m]));
                    Boundary.Probe p = ofBasis(order, both);
                    int first = (1 << SETS[n].length) - 1;
                    int second = (1 << both.size()) - 1 - first;
                    due("the first of " + both, p.basis(first), BASES[n][order].length);
                    due("the second of " + both, parts(p, second).toString(), List.of(BASES[m][order]).toString());
                    due("the first of " + both + " again", parts(p, first).toString(), List.of(BASES[n][order]).toString());
                }
            }
        }
    }

    private static void againAndAgain() {
        sentence(20, "Tells whether an operator is in the left ideal of a set.");
        Boundary.Probe p = Boundary.with("x*d-2", "d^3", "x", "x^2*d-2*x", "5*d-x", "x+1");
        for (int n = 0; n < 20; n++) {
            due("within(3, 3)", p.within(3, 3), 1);
            due("within(2, 4)", p.within(2, 4), 1);
            due("within(2, 3)", p.within(2, 3), 0);
            due("rest(5, 5, 4)", p.rest(5, 5, 4), 1);
            due("within(5, 3)", p.within(5, 3), 0);
            due("based(3, 1, 0, 3)", p.based(3, 1, 0, 3), 1);
            due("based(4, 1, 0, 3)", p.based(4, 1, 0, 3), 0);
        }
        // d^3 is in the ideals of many sets, but never in that of x d - 2 alone
        Boundary.Probe q = Boundary.with("x*d-2", "d^3", "d^3+x*d-2", "-d^3");
        for (int n = 1; n <= 10; n++) {
            for (int set : new int[] {3, 5, 9, 6, 12, 7, 15}) {
                due("within(1, " + set + ")", q.within(1, set), 1);
            }
            q.sums(5, 0, n, 0, 0);
            due("within(1, 32)", q.within(1, 32), 0);
            due("based(32, 1, 0, 3)", q.based(32, 1, 0, 3), 0);
            due("within(0, 32)", q.within(0, 32), 1);
            due("basis(16) of 0", q.basis(16), 0);
            due("within(0, 16) of 0", q.within(0, 16), 0);
        }
    }

    /** A basis is that of the operators as they are now, with each of their words. */
    private static void presentOperators() {
        sentence(18, "Returns a coefficient of an operator of the reduced basis of a set.");
        int[] numbers = {5, 0, -1, 0, 5003, -5003, 0, 10007};
        for (int k = 0; k < 6; k++) {
            Boundary.Probe p = fresh();
            p.sets(k, 0, 3, 1);
            p.sets(k == 0 ? 1 : 0, 1, 0, 1);
            for (int i = 0; i <= 3; i++) {
                for (int j = 0; i + j <= 3 && j < 3; j++) {
                    for (int c : numbers) {
                        p.sets(k, i, j, c);
                        due("based(" + (1 << k) + ", 0, " + i + ", " + j + ") with " + c, p.based(1 << k, 0, i, j), c % 10007);
                    }
                }
            }
            p.sets(k, 1, 0, 4);
            due("based() by order 0", p.based(1 << k, 0, 1, 0), 4);
            p.sets(k, 0, 3, 2);
            due("based() with another lead", p.based(1 << k, 0, 1, 0), 2);
            p.sets(k, 3, 0, 4);
            p.order(1);
            due("based() by order 1", p.based(1 << k, 0, 1, 0), 1);
            due("basis() of both", p.basis(63), 1);
            p.back();
            due("based() by order 0", p.based(1 << k, 0, 1, 0), 2);
            p.back();
            due("based() without x^3", p.based(1 << k, 0, 3, 0), 0);
        }
    }

    /** Two operators of one word each: whichever words and numbers they have, each has its own basis. */
    private static void oneWordEach() {
        sentence(18, "Returns a coefficient of an operator of the reduced basis of a set.");
        for (int k = 0; k < 6; k++) {
            for (int m = 0; m < 6; m++) {
                for (int word = 0; m != k && word < 10; word++) {
                    eachOther(k, m, X_OF_WORD[word], D_OF_WORD[word]);
                }
            }
        }
    }

    private static final int[] X_OF_WORD = {0, 1, 0, 2, 1, 0, 3, 2, 1, 0};
    private static final int[] D_OF_WORD = {0, 0, 1, 0, 1, 2, 0, 1, 2, 3};

    private static void eachOther(int k, int m, int i, int j) {
        Boundary.Probe p = fresh();
        p.sets(k, i, j, 1);
        for (int word = 0; word < 10; word++) {
            String words = "x^" + i + " d^" + j + " in " + k + " and the word " + word + " in " + m;
            p.sets(m, X_OF_WORD[word], D_OF_WORD[word], 1);
            due("the basis of " + words, p.based(1 << k, 0, i, j), 1);
            due("the basis of " + words + ", the second", p.based(1 << m, 0, X_OF_WORD[word], D_OF_WORD[word]), 1);
            due("the basis of " + words + ", the first again", p.based(1 << k, 0, i, j), 1);
            p.sets(m, X_OF_WORD[word], D_OF_WORD[word], 0);
            due("the second, which is 0 again", p.basis(1 << m), 0);
        }
    }

    private static final String ALL_WORDS = "1+x+d+x^2+x*d+d^2+x^3+x^2*d+x*d^2+d^3";

    /** An operator outside of a set is none of it, also if it has the coefficient 1 everywhere, or 0. */
    private static void alikeOperators() {
        sentence(17, "Returns the number of operators in the reduced basis of a set, for the present order.");
        for (int m = 1; m < 6; m++) {
            for (int first = 0; first < 2; first++) {
                Boundary.Probe p = Boundary.with("x*d");
                p.read(m, ALL_WORDS);
                for (int n = 0; n < 4; n++) {
                    boolean both = (n + first) % 2 == 0;
                    int set = both ? 1 | 1 << m : 1;
                    due("within(" + m + ", " + set + ")", p.within(m, set), both ? 1 : 0);
                    due("basis(" + (1 << m) + ")", p.basis(1 << m), 1);
                }
                p.sums(m, m, 0, m, 0);
                due("within(0, " + (1 << m) + ") of 0", p.within(0, 1 << m), 0);
                due("basis(" + (1 | 1 << m) + ") with 0", p.basis(1 | 1 << m), 1);
            }
        }
        Boundary.Probe p = fresh();
        p.typed(ALL_WORDS);
        for (int s = 0; s < 6; s++) {
            p.reads(s);
        }
        due("basis(63) of six times the same", p.basis(63), 1);
        due("its lead", p.based(63, 0, 0, 3), 1);
        due("its least term", p.based(63, 0, 0, 0), 1);
        for (int s = 0; s < 6; s++) {
            p.sums(s, s, 0, s, 0);
        }
        p.sets(0, 1, 0, 2);
        due("basis(63) without any of these coefficients", p.basis(63), 1);
        due("d^3 in it", p.based(63, 0, 0, 3), 0);
        due("x in it", p.based(63, 0, 1, 0), 1);
    }

    // ---- promise 16

    private static void rest() {
        sentence(16, "Sets operator s to the remainder of t by a set of operators.");
        String t = "d^3+5*x", u = "d-x";
        String due = "x^3+8*x";
        String[] texts = {u, t, "7"};
        for (int s = 0; s < 3; s++) {
            Boundary.Probe p = Boundary.with(texts);
            due("rest(" + s + ", 1, 1)", p.rest(s, 1, 1), 2);
            for (int k = 0; k < 3; k++) {
                due("operator " + k + " after rest(" + s + ", 1, 1)", p.text(k), k == s ? due : k == 0 ? "d-x" : texts[k]);
            }
        }
        Boundary.Probe own = Boundary.with("x*d-4");
        due("by itself, in its own place", own.rest(0, 0, 1), 0);
        due("it is 0", own.text(0), "0");
        sentence(16, "Change.");
        Boundary.changing("rest(2, 1, 1)", BoundaryBasesTest::squares, p -> p.rest(2, 1, 1), 1);
        Boundary.changing("rest(1, 1, 1), which alters nothing", BoundaryBasesTest::squares, p -> p.rest(1, 1, 1), 1);
        Boundary.changing("rest(3, 3, 1) of 0, which alters nothing", BoundaryBasesTest::squares, p -> p.rest(3, 3, 1), 0);
        Boundary.changing("rest(0, 0, 55)", BoundaryBasesTest::squares, p -> p.rest(0, 0, 55), 0);
        sentence(16, "s: the operator that is replaced, 0 to 5");
        Boundary.range("rest(s, 1, 1)", BoundaryBasesTest::squares, (p, s) -> p.rest(s, 1, 1), 0, 5);
        sentence(16, "t: an operator, 0 to 5");
        Boundary.range("rest(0, t, 1)", BoundaryBasesTest::squares, (p, t1) -> p.rest(0, t1, 1), 0, 5);
        sentence(16, SET);
        Boundary.range("rest(0, 1, set)", BoundaryBasesTest::squares, (p, set) -> p.rest(0, 1, set), 1, 63);
        sentence(16, "Returns the number of terms of the result");
        due("of 0", Boundary.with("x", "0").rest(2, 1, 1), 0);
        due("by 1", Boundary.with("1", "x^12+d^12+x").rest(2, 1, 1), 0);
        due("all terms stay", Boundary.with("x*d", "x^12+d^12+x").rest(2, 1, 1), 3);
        due("d^6 x^6 by x^6 d^6", Boundary.with("x^6*d^6", "d^6*x^6").rest(2, 1, 1), 6);
        Boundary.Probe full = Boundary.with("x-1");
        for (int i = 0; i <= 12; i++) {
            for (int j = 0; i + j <= 12; j++) {
                full.sets(1, i, j, 1);
            }
        }
        due("all words by x - 1", full.rest(2, 1, 1), 13);
        full.sets(0, 0, 12, 1);
        due("all words by d^12 + x - 1: d^12 and x are gone", full.rest(2, 1, 1), 89);
    }

    private static void restRefused() {
        sentence(16, "BAD if there is no such operator, or set is empty or has other bits");
        Supplier<Boundary.Probe> maker = BoundaryBasesTest::squares;
        Boundary.outside("rest(0, 1, set)", maker, (p, set) -> p.rest(0, 1, set), NO_SETS);
        Boundary.outside("rest(0, 1, set) with the operator 0 in it", maker, (p, set) -> p.rest(0, 1, set), 72, 8 | MIN, -8);
        for (int s : new int[] {-1, 6, MIN, MAX}) {
            Boundary.refused("rest(" + s + ", 0, 8): BAD goes before NO", maker, p -> p.rest(s, 0, 8), BAD);
            Boundary.refused("rest(0, " + s + ", 8): BAD goes before NO", maker, p -> p.rest(0, s, 8), BAD);
            Boundary.refused("rest(" + s + ", " + s + ", 0)", maker, p -> p.rest(s, s, 0), BAD);
            Boundary.refused("rest(" + s + ", 0, 1) at first", BoundaryBasesTest::fresh, p -> p.rest(s, 0, 1), BAD);
        }
        sentence(16, "NO if an operator of the set is 0.");
        for (int zero = 0; zero < 6; zero++) {
            for (int set = 1; set < 64; set++) {
                int z = zero, bits = set;
                Supplier<Boundary.Probe> one = () -> withZero(z);
                if ((set >> zero & 1) == 1) {
                    Boundary.refused("rest(0, 1, " + set + ") where operator " + zero + " is 0", one, p -> p.rest(0, 1, bits), NO);
                } else {
                    Boundary.Probe p = one.get();
                    due("rest(0, 1, " + set + ") where operator " + zero + " is 0", p.rest(0, 1, set) >= 0 ? 1 : 0, 1);
                    due("NO is not counted", p.told(1), 0);
                }
            }
        }
        Boundary.refused("rest(0, 0, 1) at first", BoundaryBasesTest::fresh, p -> p.rest(0, 0, 1), NO);
        Boundary.refused("rest(5, 5, 63) at first", BoundaryBasesTest::fresh, p -> p.rest(5, 5, 63), NO);
        Boundary.refused("t is 0, and so is one of the set", maker, p -> p.rest(3, 3, 8), NO);
        Boundary.refused("an operator before it divides", maker, p -> p.rest(2, 0, 9), NO);
        Boundary.refused("what has become 0", () -> becomeZero(), p -> p.rest(2, 1, 1), NO);
        Boundary.changing("t is 0, and none of the set", maker, p -> p.rest(5, 3, 7), 0);
        Boundary.changing("s is 0, and none of the set", maker, p -> p.rest(3, 1, 1), 1);
    }

    /** Operators that are x - 1, x - 2, .., but for one of them. */
    private static Boundary.Probe withZero(int zero) {
        Boundary.Probe p = fresh();
        for (int s = 0; s < 6; s++) {
            if (s != zero) {
                p.sets(s, 1, 0, 1);
                p.sets(s, 0, 0, -1 - s);
            }
        }
        return p;
    }

    private static Boundary.Probe becomeZero() {
        Boundary.Probe p = Boundary.with("x", "x+1");
        p.sets(0, 1, 0, 10007);
        return p;
    }

    // ---- promises 17 and 18

    private static void basis() {
        sentence(17, "Returns the number of operators in the reduced basis of a set, for the present order.");
        Boundary.harmless("basis(7)", BoundaryBasesTest::squares, p -> p.basis(7), 2);
        Boundary.harmless("basis(8) of 0", BoundaryBasesTest::squares, p -> p.basis(8), 0);
        // by order 0 there is a third one, of degree 4
        Boundary.Probe p = Boundary.with("4*(x+d)^2*d-d^2-16*(x+d)", "d^3-8*(x+d)*d+32");
        due("by order 0", p.basis(3), 3);
        p.order(1);
        due("by order 1", p.basis(3), 2);
        p.order(0);
        due("by order 0 again", p.basis(3), 3);
        p.back();
        due("by order 1 after back()", p.basis(3), 2);
        p.sets(0, 0, 0, 1);
        due("after sets()", p.basis(3), 1);
        p.back();
        due("after back()", p.basis(3), 2);
        due("of another set", p.basis(1), 1);
        sentence(17, SET);
        Boundary.range("basis(set)", BoundaryBasesTest::squares, (q, set) -> q.basis(set), 1, 63);
        sentence(17, "Returns the number");
        for (int n = 0; n < SETS.length; n++) {
            due("of " + String.join(", ", SETS[n]), Boundary.with(SETS[n]).basis((1 << SETS[n].length) - 1), BASES[n][0].length);
        }
        due("of the operator 0", fresh().basis(1), 0);
        due("of all six", fresh().basis(63), 0);
        due("of all six, one of them a number", Boundary.with("0", "0", "0", "0", "0", "5003").basis(63), 1);
    }

    private static void based() {
        sentence(18, "Returns a coefficient of an operator of the reduced basis of a set.");
        Boundary.harmless("based(7, 0, 0, 0)", BoundaryBasesTest::squares, p -> p.based(7, 0, 0, 0), -2);
        Boundary.harmless("based(7, 2, 0, 0)", BoundaryBasesTest::squares, p -> p.based(7, 2, 0, 0), 0);
        Boundary.harmless("based(8, 0, 0, 0) of 0", BoundaryBasesTest::squares, p -> p.based(8, 0, 0, 0), 0);
        Supplier<Boundary.Probe> maker = BoundaryBasesTest::squares;
        sentence(18, SET);
        Boundary.range("based(set, 0, 0, 0)", maker, (p, set) -> p.based(set, 0, 0, 0), 1, 63);
        sentence(18, "k: the index in the basis, 0 or greater");
        Boundary.range("based(7, k, 0, 0)", maker, (p, k) -> p.based(7, k, 0, 0), 0, MAX);
        Boundary.range("based(8, k, 0, 0) of 0", maker, (p, k) -> p.based(8, k, 0, 0), 0, MAX);
        sentence(18, "i: the exponent of x, 0 to 15");
        Boundary.range("based(7, 0, i, 0)", maker, (p, i) -> p.based(7, 0, i, 0), 0, 15);
        Boundary.range("based(7, 0, i, 15)", maker, (p, i) -> p.based(7, 0, i, 15), 0, 15);
        sentence(18, "j: the exponent of d, 0 to 15");
        Boundary.range("based(7, 0, 0, j)", maker, (p, j) -> p.based(7, 0, 0, j), 0, 15);
        Boundary.range("based(7, 0, 15, j)", maker, (p, j) -> p.based(7, 0, 15, j), 0, 15);
        sentence(18, "Returns the coefficient");
        Boundary.Probe p = Boundary.with("5003*x*d-2*5003", "d^3");
        for (int i = 0; i <= 15; i++) {
            for (int j = 0; j <= 15; j++) {
                due("based(1, 0, " + i + ", " + j + ")", p.based(1, 0, i, j), i == 1 && j == 1 ? 1 : i + j == 0 ? -2 : 0);
            }
        }
        for (int j = 0; j <= 15; j++) {
            due("based(3, 1, 0, " + j + ")", p.based(3, 1, 0, j), j == 3 ? 1 : 0);
        }
        Boundary.Probe q = Boundary.with("2*x+1", "2*x-1");
        due("1/2", q.based(1, 0, 0, 0), -5003);
        due("-1/2", q.based(2, 0, 0, 0), 5003);
        sentence(18, "0 if the basis has not so many operators");
        for (int n = 0; n < SETS.length; n++) {
            for (int order = 0; order < 2; order++) {
                Boundary.Probe r = Boundary.with(SETS[n]);
                r.order(order);
                int set = (1 << SETS[n].length) - 1, count = BASES[n][order].length, last = 0;
                for (int i = 0; i <= 5; i++) {
                    for (int j = 0; j <= 5; j++) {
                        last += r.based(set, count - 1, i, j) == 0 ? 0 : 1;
                        due("based(" + set + ", " + count + ", " + i + ", " + j + ")", r.based(set, count, i, j), 0);
                    }
                }
                due("the last one has terms", last > 0 ? 1 : 0, 1);
                due("based(" + set + ", greatest, 0, 0)", r.based(set, MAX, 0, 0), 0);
                due("based(" + set + ", " + (count + 1) + ", 0, 0)", r.based(set, count + 1, 0, 0), 0);
            }
        }
    }

    private static void basedOutside() {
        sentence(18, "BAD if set is empty or has other bits, or k, i or j is out of range");
        Supplier<Boundary.Probe> maker = BoundaryBasesTest::squares;
        int[][] bad = {{0, 0, 0, 0}, {64, 0, 0, 0}, {-1, 0, 0, 0}, {1, -1, 0, 0}, {1, 0, -1, 0}, {1, 0, 16, 0}, {1, 0, 0, -1}, {1, 0, 0, 16},
            {1, 0, -1, 16}, {1, 0, 16, -1}, {1, 0, 16, 16}, {1, -1, 16, 16}, {0, -1, -1, -1}, {1, 0, MAX, MAX}, {1, 0, MIN, MIN}};
        for (int[] b : bad) {
            String name = "based(" + b[0] + ", " + b[1] + ", " + b[2] + ", " + b[3] + ")";
            Boundary.refused(name, maker, p -> p.based(b[0], b[1], b[2], b[3]), BAD);
            Boundary.refused(name + " at first", BoundaryBasesTest::fresh, p -> p.based(b[0], b[1], b[2], b[3]), BAD);
            int high = b[0] == 1 ? 48 : b[0];
            Boundary.refused(name + " with a degree of 12: BAD goes before NO", maker, p -> p.based(high, b[1], b[2], b[3]), BAD);
        }
        Boundary.refused("based(1, 9, 16, 0): BAD, though there are not so many", maker, p -> p.based(1, 9, 16, 0), BAD);
        Boundary.refused("based(8, 0, 0, 16): BAD, though the basis is empty", maker, p -> p.based(8, 0, 0, 16), BAD);
    }

    // ---- promise 19

    private static void stairs() {
        sentence(19, "Returns how many words of a degree are on the staircase of a set.");
        Boundary.harmless("stairs(7, 2)", BoundaryBasesTest::squares, p -> p.stairs(7, 2), 2);
        Boundary.harmless("stairs(8, 20) of 0", BoundaryBasesTest::squares, p -> p.stairs(8, 20), 21);
        Supplier<Boundary.Probe> maker = BoundaryBasesTest::squares;
        sentence(19, SET);
        Boundary.range("stairs(set, 3)", maker, (p, set) -> p.stairs(set, 3), 1, 63);
        sentence(19, "n: the degree, 0 to 20");
        Boundary.range("stairs(7, n)", maker, (p, n) -> p.stairs(7, n), 0, 20);
        Boundary.range("stairs(8, n) of 0", maker, (p, n) -> p.stairs(8, n), 0, 20);
        sentence(19, "Returns the number");
        Boundary.Probe p = Boundary.with("x", "d", "x^3", "d^3", "x*d", "5");
        for (int n = 0; n <= 20; n++) {
            due("of x in degree " + n, p.stairs(1, n), 1);
            due("of d in degree " + n, p.stairs(2, n), 1);
            due("of x^3 in degree " + n, p.stairs(4, n), Math.min(3, n + 1));
            due("of d^3 in degree " + n, p.stairs(8, n), Math.min(3, n + 1));
            due("of x d in degree " + n, p.stairs(16, n), Math.min(2, n + 1));
            due("of 5 in degree " + n, p.stairs(32, n), 0);
            due("of x and d in degree " + n, p.stairs(3, n), 0);
        }
        sentence(19, "BAD if set is empty or has other bits, or n is out of range");
        for (int n : new int[] {-1, 21, MIN, MAX}) {
            Boundary.refused("stairs(48, " + n + "): BAD goes before NO", maker, q -> q.stairs(48, n), BAD);
            Boundary.refused("stairs(1, " + n + ") at first", BoundaryBasesTest::fresh, q -> q.stairs(1, n), BAD);
            Boundary.refused("stairs(0, " + n + ")", maker, q -> q.stairs(0, n), BAD);
            Boundary.refused("stairs(64, " + n + ")", maker, q -> q.stairs(64, n), BAD);
        }
    }

    // ---- promise 20

    private static void within() {
        sentence(20, "Tells whether an operator is in the left ideal of a set.");
        Boundary.harmless("within(2, 3)", BoundaryBasesTest::squares, p -> p.within(2, 3), 1);
        Boundary.harmless("within(2, 2)", BoundaryBasesTest::squares, p -> p.within(2, 2), 0);
        Supplier<Boundary.Probe> maker = BoundaryBasesTest::squares;
        sentence(20, "t: the operator, 0 to 5, of any degree");
        Boundary.range("within(t, 1)", maker, (p, t) -> p.within(t, 1), 0, 5);
        for (int n = 0; n <= 12; n++) {
            Boundary.Probe p = fresh();
            p.sets(0, 1, 0, 1);
            p.sets(1, n, 0, 1);
            p.sets(2, 0, n, 1);
            due("x^" + n + " by x", p.within(1, 1), n == 0 ? 0 : 1);
            due("d^" + n + " by x", p.within(2, 1), 0);
        }
        Boundary.harmless("a t of degree 4", maker, p -> p.within(4, 7), 1);
        Boundary.harmless("a t of degree 12", maker, p -> p.within(5, 7), 0);
        sentence(20, SET);
        Boundary.range("within(2, set)", maker, (p, set) -> p.within(2, set), 1, 63);
        sentence(20, "Returns 1 if it is, 0 if not");
        for (String[] set : SETS) {
            for (int order = 0; order < 2; order++) {
                Boundary.Probe p = Boundary.with(set);
                p.order(order);
                int bits = (1 << set.length) - 1;
                int all = p.basis(bits) == 1 && p.based(bits, 0, 0, 0) == 1 && p.stairs(bits, 0) == 0 ? 1 : 0;
                p.read(5, "1");
                due("1", p.within(5, bits), all);
                for (int k = 0; k < set.length; k++) {
                    due("one of them", p.within(k, bits), 1);
                    p.read(4, "(x^3*d^5-3*d^9+2)");
                    p.times(5, 4, k);
                    due("a multiple of it", p.within(5, bits), 1);
                    p.sets(5, 0, 0, p.at(5, 0, 0) + 1);
                    due("a multiple and 1", p.within(5, bits), all);
                }
            }
        }
    }

    private static void withinOutside() {
        sentence(20, "BAD if there is no such operator, or set is empty or has other bits");
        Supplier<Boundary.Probe> maker = BoundaryBasesTest::squares;
        for (int t : new int[] {-1, 6, MIN, MAX}) {
            Boundary.refused("within(" + t + ", 48): BAD goes before NO", maker, p -> p.within(t, 48), BAD);
            Boundary.refused("within(" + t + ", 1) at first", BoundaryBasesTest::fresh, p -> p.within(t, 1), BAD);
            Boundary.refused("within(" + t + ", 0)", maker, p -> p.within(t, 0), BAD);
            Boundary.refused("within(" + t + ", 64)", maker, p -> p.within(t, 64), BAD);
        }
        Boundary.refused("within(0, 0) at first", BoundaryBasesTest::fresh, p -> p.within(0, 0), BAD);
    }

    // ---- what 17 to 20 have in common

    private static void setsOfBits() {
        Supplier<Boundary.Probe> maker = BoundaryBasesTest::squares;
        sentence(17, "BAD if set is empty or has other bits");
        Boundary.outside("basis(set)", maker, (p, set) -> p.basis(set), NO_SETS);
        Boundary.outside("basis(set) with a degree of 12: BAD goes before NO", maker, (p, set) -> p.basis(set), 96, 32 | MIN, -32);
        sentence(18, "BAD if set is empty or has other bits, or k, i or j is out of range");
        Boundary.outside("based(set, 0, 0, 0)", maker, (p, set) -> p.based(set, 0, 0, 0), NO_SETS);
        Boundary.outside("based(set, 0, 0, 0) with a degree of 12", maker, (p, set) -> p.based(set, 0, 0, 0), 96, 32 | MIN, -32);
        sentence(19, "BAD if set is empty or has other bits, or n is out of range");
        Boundary.outside("stairs(set, 0)", maker, (p, set) -> p.stairs(set, 0), NO_SETS);
        Boundary.outside("stairs(set, 0) with a degree of 12", maker, (p, set) -> p.stairs(set, 0), 96, 32 | MIN, -32);
        sentence(20, "BAD if there is no such operator, or set is empty or has other bits");
        Boundary.outside("within(0, set)", maker, (p, set) -> p.within(0, set), NO_SETS);
        Boundary.outside("within(0, set) with a degree of 12", maker, (p, set) -> p.within(0, set), 96, 32 | MIN, -32);
        // the ideal of polynomials in d is that of their greatest common divisor: bit k brings in operator k
        int[][] roots = {{1, 2, 3}, {1, 2, 4}, {1, 3, 4}, {2, 3, 4}, {1, 2}, {3}};
        for (int set = 1; set < 64; set++) {
            Boundary.Probe p = fresh();
            int common = 30;
            for (int k = 0; k < 6; k++) {
                StringBuilder text = new StringBuilder("7");
                int bits = 0;
                for (int root : roots[k]) {
                    text.append("*(d-").append(root).append(")");
                    bits |= 1 << root;
                }
                p.read(k, text.toString());
                common &= (set >> k & 1) == 1 ? bits : 30;
            }
            sentence(17, SET);
            due("basis(" + set + ")", p.basis(set), 1);
            sentence(18, SET);
            int degree = Integer.bitCount(common);
            due("the lead of based(" + set + ", ..)", p.based(set, 0, 0, degree), 1);
            due("above the lead of based(" + set + ", ..)", p.based(set, 0, 0, degree + 1), 0);
            due("the number of based(" + set + ", ..)", p.based(set, 0, 0, 0), productOfRoots(common));
            sentence(19, SET);
            due("stairs(" + set + ", 4)", p.stairs(set, 4), degree);
            sentence(20, SET);
            for (int k = 0; k < 6; k++) {
                due("within(" + k + ", " + set + ")", p.within(k, set), (maskOf(roots[k]) & common) == common ? 1 : 0);
            }
        }
    }

    private static int maskOf(int[] roots) {
        int bits = 0;
        for (int root : roots) {
            bits |= 1 << root;
        }
        return bits;
    }

    /** What (d - r) (d - s) .. is for d = 0. */
    private static int productOfRoots(int bits) {
        int product = 1;
        for (int root = 1; root <= 4; root++) {
            product *= (bits >> root & 1) == 1 ? -root : 1;
        }
        return product;
    }

    private static void degreesAbove3() {
        for (int n = 0; n <= 12; n++) {
            for (int j = 0; j <= n; j++) {
                int degree = n, d = j;
                refusedForDegree("x^" + (n - j) + " d^" + j, () -> oneWord(5, degree - d, d), 32, degree > 3);
            }
        }
        for (int s = 0; s < 6; s++) {
            for (int set = 1; set < 64; set++) {
                int operator = s;
                refusedForDegree("degree 4 as operator " + s + ", set " + set, () -> oneWord(operator, 2, 2), set, (set >> s & 1) == 1);
                refusedForDegree("degree 3 as operator " + s + ", set " + set, () -> oneWord(operator, 1, 2), set, false);
            }
        }
        refusedForDegree("a degree of 4 that is gone", () -> degreeGone(), 1, false);
        refusedForDegree("0 and a degree of 4", () -> oneWord(1, 4, 0), 3, true);
    }

    private static Boundary.Probe oneWord(int s, int i, int j) {
        Boundary.Probe p = fresh();
        p.sets(s, 0, 0, 1);
        p.sets(s, i, j, 1);
        return p;
    }

    private static Boundary.Probe degreeGone() {
        Boundary.Probe p = Boundary.with("x*d^3+d");
        p.sets(0, 1, 3, 0);
        return p;
    }

    /** All four calls are refused, or none of them. */
    private static void refusedForDegree(String name, Supplier<Boundary.Probe> maker, int set, boolean refused) {
        sentence(17, ABOVE_3);
        refusedOrNot("basis() of " + name, maker, p -> p.basis(set), refused);
        sentence(18, ABOVE_3);
        refusedOrNot("based() of " + name, maker, p -> p.based(set, 0, 0, 0), refused);
        refusedOrNot("based() beyond the basis of " + name, maker, p -> p.based(set, 99, 0, 0), refused);
        sentence(19, ABOVE_3);
        refusedOrNot("stairs() of " + name, maker, p -> p.stairs(set, 0), refused);
        sentence(20, ABOVE_3);
        refusedOrNot("within() of " + name, maker, p -> p.within(0, set), refused);
    }

    private static void refusedOrNot(String name, Supplier<Boundary.Probe> maker, Boundary.Call call, boolean refused) {
        if (refused) {
            Boundary.refused(name, maker, call, NO);
        } else {
            Boundary.Probe p = maker.get();
            due(name + " is no error", call.on(p) >= -5003 ? 1 : 0, 1);
            due("told(1) after " + name, p.told(1), 0);
        }
    }
}
