import java.util.function.Supplier;

/** The boundary cases of the promises 1 to 10, and of what the document says of numbers, words, operators and orders. */
public final class BoundaryOperatorsTest {
    private static final int NONE = Boundary.NONE, BAD = Boundary.BAD, NO = Boundary.NO, FULL = Boundary.FULL;
    private static final int MAX = Boundary.MAX, MIN = Boundary.MIN;
    private static final String SUCH = "BAD if there is no such operator";
    private static final String TERMS = "Returns the number of terms of the result";
    private static final String S = "s: the operator, 0 to 5";
    private static final String REPLACED = "s: the operator that is replaced, 0 to 5";
    private static final String T = "t: an operator, 0 to 5";
    private static final String U = "u: an operator, 0 to 5";
    /** Arguments, each with the number from -5003 to 5003 that it stands for. */
    static final int[][] RESIDUES = {{0, 0}, {1, 1}, {-1, -1}, {5002, 5002}, {5003, 5003}, {5004, -5003}, {5005, -5002}, {-5002, -5002},
        {-5003, -5003}, {-5004, 5003}, {-5005, 5002}, {10006, -1}, {10007, 0}, {10008, 1}, {-10006, 1}, {-10007, 0}, {-10008, -1},
        {15010, 5003}, {15011, -5003}, {MAX, 1461}, {MIN, -1462}};

    private static void sentence(int promise, String text) {
        Boundary.sentence(promise, text);
    }

    private static void due(String call, long got, long want) {
        Boundary.due(call, got, want);
    }

    private static void due(String call, String got, String want) {
        Boundary.due(call, got, want);
    }

    public static void main(String[] args) throws Exception {
        numbers();
        words();
        sizes();
        leads();
        newObject();
        sets();
        setsOutside();
        at();
        sums();
        sumsNumbers();
        times();
        timesFull();
        bracket();
        bracketFull();
        power();
        powerFull();
        reversed();
        of();
        ofNothing();
        order();
        Boundary.finish(1, 10);
    }

    private static Boundary.Probe fresh() {
        return new Boundary.Probe();
    }

    /** The operators 0 and 1 are x^a and d^b, of these degrees, each with a lesser term. */
    private static Boundary.Probe degrees(int a, int b) {
        Boundary.Probe p = fresh();
        p.sets(0, 0, 0, 3);
        p.sets(0, a, 0, 1);
        p.sets(1, 0, 0, 2);
        p.sets(1, 0, b, 1);
        return p;
    }

    // ---- the description

    private static void numbers() {
        sentence(0, "Results are given as integers from -5003 to 5003; as an argument any int stands for its residue.");
        for (int[] r : RESIDUES) {
            Boundary.Probe p = fresh();
            p.sets(0, 0, 0, r[0]);
            p.puts(0, 0, r[0]);
            p.sets(1, 0, 1, r[0]);
            due("at() of " + r[0], p.at(0, 0, 0), r[1]);
            due("of(0, 8) of " + r[0], p.of(0, 8), r[1]);
            due("rate() of " + r[0], p.rate(0, 0), r[1]);
            due("shown() of " + r[0], p.text(0), "" + r[1]);
            due("sets() of " + r[0], p.sets(0, 0, 0, 0), r[1]);
            due("puts() of " + r[0], p.puts(0, 0, 0), r[1]);
            due("terms of " + r[0], p.of(1, 0), r[1] == 0 ? 0 : 1);
            // d + c/2, whose double is 2 d + c
            p.sets(2, 0, 1, 2);
            p.sets(2, 0, 0, r[0]);
            int half = p.based(4, 0, 0, 0);
            due("based() of " + r[0] + " is within its bounds", half >= -5003 && half <= 5003 ? 1 : 0, 1);
            due("based() of " + r[0], Math.floorMod(2 * half - r[1], 10007), 0);
        }
    }

    private static void words() {
        sentence(0, "d^j x^i = the sum, over k from 0 to the smaller one of i and j, of C(j, k) * i * (i - 1) * ... * (i - k + 1) * x^(i-k) d^(j-k)");
        for (int i = 0; i <= 12; i++) {
            for (int j = 0; i + j <= 12; j++) {
                Boundary.Probe p = fresh();
                p.sets(0, i, 0, 1);
                p.sets(1, 0, j, 1);
                String name = "d^" + j + " x^" + i;
                due("terms of " + name, p.times(2, 1, 0), Math.min(i, j) + 1);
                long coefficient = 1;
                for (int k = 0; k <= Math.min(i, j); k++) {
                    due(name + ", k = " + k, p.at(2, i - k, j - k), balanced(coefficient));
                    // the next C(j, k) times the next product of i, i - 1, ..
                    coefficient = coefficient * (j - k) * (i - k) / (k + 1);
                }
            }
        }
        due("d^6 x^6", Boundary.with("d^6*x^6").text(0),
            "x^6*d^6+36*x^5*d^5+450*x^4*d^4+2400*x^3*d^3-4607*x^2*d^2+4320*x*d+720");
    }

    private static long balanced(long number) {
        long r = Math.floorMod(number, 10007L);
        return r > 5003 ? r - 10007 : r;
    }

    private static void sizes() {
        sentence(0, "its degree is the greatest degree of its terms; the operator 0 has no terms and no degree.");
        due("the degree of 4", Boundary.with("4").of(0, 1), 0);
        due("the degree of x^2*d+d^2+x", Boundary.with("x^2*d+d^2+x").of(0, 1), 3);
        due("the degree of d^12+x^12", Boundary.with("d^12+x^12").of(0, 1), 12);
        sentence(0, "The terms of an operator are its words with coefficients other than 0;");
        Boundary.Probe p = Boundary.with("x^12+d^11+5");
        due("its terms", p.of(0, 0), 3);
        p.sets(0, 12, 0, 10007);
        due("a term whose coefficient has become 0", p.of(0, 0), 2);
        due("a word that has not been a term", p.sets(0, 5, 5, -10007) + p.of(0, 0), 2);
        due("its text", p.text(0), "d^11+5");
        sentence(0, "its degree is the greatest degree of its terms; the operator 0 has no terms and no degree.");
        due("the degree without its greatest term", p.of(0, 1), 11);
        p.sets(0, 0, 11, 0);
        due("the degree of what is left", p.of(0, 1), 0);
        p.sets(0, 0, 0, 0);
        due("the degree of 0", p.of(0, 1), NONE);
        due("the terms of 0", p.of(0, 0), 0);
        sentence(0, "There are six operators, 0 to 5, whose words have degrees 0 to 12, and two polynomials in x, 0 and 1, with the powers 0 to 30.");
        Boundary.Probe q = fresh();
        for (int s = 0; s < 6; s++) {
            q.sets(s, 12, 0, 10 + s);
            q.sets(s, 0, 12, 20 + s);
            q.sets(s, 0, 0, 30 + s);
        }
        for (int f = 0; f < 2; f++) {
            q.puts(f, 0, 40 + f);
            q.puts(f, 30, 50 + f);
        }
        for (int s = 0; s < 6; s++) {
            due("operator " + s, q.text(s), (20 + s) + "*d^12+" + (10 + s) + "*x^12+" + (30 + s));
        }
        due("polynomial 0", q.polynomial(0), "40@0 50@30");
        due("polynomial 1", q.polynomial(1), "41@0 51@30");
    }

    private static void leads() {
        sentence(0, "The order is 0 or 1, and 0 at first.");
        due("the order at first", fresh().told(4), 0);
        due("the lead at first", Boundary.with("x+d").of(0, 7), 1);
        sentence(0, "Of two words the one with the greater degree is greater; if the degrees are equal, the one with the greater j for order 0, and the one with the greater i for order 1.");
        for (int n = 1; n <= 12; n++) {
            for (int j = 0; j <= n; j++) {
                // all words of degree n up to (n - j, j), and the greatest words of the degree below
                Boundary.Probe p = fresh();
                p.sets(0, n - 1, 0, 1);
                p.sets(0, 0, n - 1, 1);
                for (int k = 0; k <= j; k++) {
                    p.sets(0, n - k, k, 1);
                }
                due("j of the lead by order 0", p.of(0, 7), j);
                p.order(1);
                due("i of the lead by order 1", p.of(0, 6), n);
                for (int k = 0; k < j; k++) {
                    p.sets(0, n - k, k, 0);
                }
                due("i of the lead by order 1", p.of(0, 6), n - j);
                due("j of the lead by order 1", p.of(0, 7), j);
            }
        }
        sentence(0, "The lead of an operator other than 0 is its term with the greatest word.");
        Boundary.Probe p = Boundary.with("9*x^2-4*x*d+7*d^2+d-1");
        due("its coefficient by order 0", p.of(0, 8), 7);
        p.order(1);
        due("its coefficient by order 1", p.of(0, 8), 9);
        due("the lead of a number", Boundary.with("5003").of(0, 8), 5003);
    }

    // ---- promise 1

    private static void newObject() {
        sentence(0, "All of them are 0 at first.");
        newOperators();
        sentence(1, "Creates an object in which all operators and polynomials are 0, with order 0, an empty text, no stored states, and no errors counted.");
        newOperators();
        for (int f = 0; f < 2; f++) {
            due("polynomial " + f, fresh().polynomial(f), "");
        }
        Boundary.Probe p = fresh();
        for (int what = 0; what <= 5; what++) {
            due("told(" + what + ")", p.told(what), 0);
        }
        due("the empty text", p.reads(0), -30000);
        due("its length", p.clear(), 0);
        Boundary.refused("back()", BoundaryOperatorsTest::fresh, q -> q.back(), NO);
        Boundary.Probe first = fresh();
        first.sets(0, 1, 1, 5);
        first.puts(0, 1, 5);
        first.order(1);
        first.type('x');
        first.back();
        first.told(6);
        Boundary.Probe second = fresh();
        due("another object", second.digest(), fresh().digest());
        second.sets(0, 1, 1, 8);
        due("the object before it", first.at(0, 1, 1), 5);
    }

    private static void newOperators() {
        for (int s = 0; s < 6; s++) {
            Boundary.Probe p = fresh();
            for (int i = 0; i <= 12; i++) {
                for (int j = 0; i + j <= 12; j++) {
                    due("at(" + s + ", " + i + ", " + j + ")", p.at(s, i, j), 0);
                }
            }
            due("of(" + s + ", 0)", p.of(s, 0), 0);
            due("text " + s, p.text(s), "0");
        }
    }

    // ---- promises 2 and 3

    private static void sets() {
        sentence(2, "Sets a coefficient of an operator.");
        for (int s = 0; s < 6; s += 5) {
            Boundary.Probe p = fresh();
            int c = 1;
            for (int i = 0; i <= 12; i++) {
                for (int j = 0; i + j <= 12; j++) {
                    p.sets(s, i, j, c++);
                }
            }
            due("terms of operator " + s, p.of(s, 0), 91);
            due("terms of its neighbour", p.of(s == 0 ? 1 : 4, 0), 0);
            c = 1;
            for (int i = 0; i <= 12; i++) {
                for (int j = 0; i + j <= 12; j++) {
                    due("at(" + s + ", " + i + ", " + j + ")", p.at(s, i, j), c++);
                }
            }
        }
        sentence(2, "Change.");
        Boundary.changing("sets(0, 1, 1, 9)", Boundary::busy, p -> p.sets(0, 1, 1, 9), 1);
        Boundary.changing("sets(0, 1, 1, 1), which alters nothing", Boundary::busy, p -> p.sets(0, 1, 1, 1), 1);
        Boundary.changing("sets(0, 0, 0, 0) at first", BoundaryOperatorsTest::fresh, p -> p.sets(0, 0, 0, 0), 0);
        sentence(2, S);
        Boundary.range("sets(s, 1, 1, 1)", Boundary::busy, (p, s) -> p.sets(s, 1, 1, 1), 0, 5);
        sentence(2, "i: the exponent of x");
        Boundary.range("sets(0, i, 0, 1)", Boundary::busy, (p, i) -> p.sets(0, i, 0, 1), 0, 12);
        Boundary.range("sets(0, i, 5, 1)", Boundary::busy, (p, i) -> p.sets(0, i, 5, 1), 0, 7);
        Boundary.range("sets(0, i, 12, 1)", Boundary::busy, (p, i) -> p.sets(0, i, 12, 1), 0, 0);
        sentence(2, "j: the exponent of d");
        Boundary.range("sets(0, 0, j, 1)", Boundary::busy, (p, j) -> p.sets(0, 0, j, 1), 0, 12);
        Boundary.range("sets(0, 5, j, 1)", Boundary::busy, (p, j) -> p.sets(0, 5, j, 1), 0, 7);
        Boundary.range("sets(0, 12, j, 1)", Boundary::busy, (p, j) -> p.sets(0, 12, j, 1), 0, 0);
        sentence(2, "c: the new coefficient");
        sentence(2, "Returns the previous coefficient");
        Boundary.Probe p = fresh();
        int before = 0;
        for (int[] r : RESIDUES) {
            sentence(2, "Returns the previous coefficient");
            due("sets(3, 2, 4, " + r[0] + ")", p.sets(3, 2, 4, r[0]), before);
            sentence(2, "c: the new coefficient");
            due("at() after sets(3, 2, 4, " + r[0] + ")", p.at(3, 2, 4), r[1]);
            before = r[1];
        }
    }

    /** Arguments i and j that are no word: below 0, above 12, right above 12 in their sum, and sums that wrap. */
    private static final int[][] NO_WORDS = {{-1, 0}, {0, -1}, {-1, -1}, {-1, 5}, {5, -1}, {-1, 13}, {13, -1}, {14, -3}, {-3, 14}, {MIN, 0},
        {0, MIN}, {MIN, MIN}, {MAX, MIN}, {MIN, MAX}, {MAX, MAX}, {MAX, 1}, {1, MAX}, {MAX, 0}, {0, MAX}, {1 << 30, 1 << 30},
        {MAX, 12}, {12, MAX}, {MAX - 5, MAX - 6}, {12, 12}};

    private static void setsOutside() {
        sentence(2, SUCH + ", i or j is negative, or i + j is above 12.");
        for (int i = 0; i <= 13; i++) {
            int x = i;
            if (i <= 12) {
                Boundary.changing("sets(0, " + i + ", " + (12 - i) + ", 5)", BoundaryOperatorsTest::fresh, p -> p.sets(0, x, 12 - x, 5), 0);
            }
            Boundary.refused("sets(0, " + i + ", " + (13 - i) + ", 5)", Boundary::busy, p -> p.sets(0, x, 13 - x, 5), BAD);
        }
        for (int[] w : NO_WORDS) {
            Boundary.refused("sets(0, " + w[0] + ", " + w[1] + ", 5)", Boundary::busy, p -> p.sets(0, w[0], w[1], 5), BAD);
        }
        Boundary.refused("sets(6, -1, 13, 5)", Boundary::busy, p -> p.sets(6, -1, 13, 5), BAD);
        Boundary.refused("sets(-1, 0, 0, 0)", BoundaryOperatorsTest::fresh, p -> p.sets(-1, 0, 0, 0), BAD);
    }

    private static void at() {
        sentence(3, "Returns a coefficient of an operator.");
        Boundary.harmless("at(0, 0, 0)", Boundary::busy, p -> p.at(0, 0, 0), -2);
        Boundary.harmless("at(5, 1, 0)", Boundary::busy, p -> p.at(5, 1, 0), 5);
        sentence(3, S);
        Boundary.range("at(s, 1, 1)", Boundary::busy, (p, s) -> p.at(s, 1, 1), 0, 5);
        sentence(3, "i: the exponent of x");
        Boundary.range("at(0, i, 0)", Boundary::busy, (p, i) -> p.at(0, i, 0), 0, 12);
        Boundary.range("at(0, i, 5)", Boundary::busy, (p, i) -> p.at(0, i, 5), 0, 7);
        Boundary.range("at(0, i, 12)", Boundary::busy, (p, i) -> p.at(0, i, 12), 0, 0);
        sentence(3, "j: the exponent of d");
        Boundary.range("at(0, 0, j)", Boundary::busy, (p, j) -> p.at(0, 0, j), 0, 12);
        Boundary.range("at(0, 5, j)", Boundary::busy, (p, j) -> p.at(0, 5, j), 0, 7);
        Boundary.range("at(0, 12, j)", Boundary::busy, (p, j) -> p.at(0, 12, j), 0, 0);
        sentence(3, "Returns the coefficient");
        Boundary.Probe one = Boundary.with("5003*x^12-5003*d^12+x^5*d^7-1");
        due("at(0, 12, 0)", one.at(0, 12, 0), 5003);
        due("at(0, 0, 12)", one.at(0, 0, 12), -5003);
        due("at(0, 5, 7)", one.at(0, 5, 7), 1);
        due("at(0, 7, 5)", one.at(0, 7, 5), 0);
        due("at(0, 0, 0)", one.at(0, 0, 0), -1);
        sentence(3, SUCH + ", i or j is negative, or i + j is above 12.");
        for (int i = 0; i <= 13; i++) {
            int x = i;
            if (i <= 12) {
                due("at(2, " + i + ", " + (12 - i) + ")", Boundary.busy().at(2, x, 12 - x), i == 6 ? 1 : 0);
            }
            Boundary.refused("at(0, " + i + ", " + (13 - i) + ")", Boundary::busy, p -> p.at(0, x, 13 - x), BAD);
        }
        for (int[] w : NO_WORDS) {
            Boundary.refused("at(0, " + w[0] + ", " + w[1] + ")", Boundary::busy, p -> p.at(0, w[0], w[1]), BAD);
        }
    }

    // ---- promise 4

    private static Boundary.Probe two() {
        return Boundary.with("3*x^2*d-d+5", "x^2*d+d");
    }

    private static void sums() {
        sentence(4, "Sets operator s to a * t + b * u.");
        String sum = "-8*d+10";
        String[][] replaced = {{sum, "x^2*d+d", "0"}, {"3*x^2*d-d+5", sum, "0"}, {"3*x^2*d-d+5", "x^2*d+d", sum}};
        for (int s = 0; s < 3; s++) {
            Boundary.Probe p = two();
            due("sums(" + s + ", 0, 2, 1, -6)", p.sums(s, 0, 2, 1, -6), 2);
            for (int t = 0; t < 3; t++) {
                due("operator " + t, p.text(t), replaced[s][t]);
            }
        }
        Boundary.Probe all = two();
        due("sums(0, 0, 1, 0, 1)", all.sums(0, 0, 1, 0, 1), 3);
        due("t, u and s are the same one", all.text(0), "6*x^2*d-2*d+10");
        sentence(4, "Change.");
        Boundary.changing("sums(2, 0, 2, 5, -6)", Boundary::busy, p -> p.sums(2, 0, 2, 5, -6), 3);
        Boundary.changing("sums(0, 0, 1, 0, 0), which alters nothing", Boundary::busy, p -> p.sums(0, 0, 1, 0, 0), 2);
        Boundary.changing("sums(0, 0, 1, 0, 1) at first", BoundaryOperatorsTest::fresh, p -> p.sums(0, 0, 1, 0, 1), 0);
        sentence(4, REPLACED);
        Boundary.range("sums(s, 0, 1, 1, 1)", Boundary::busy, (p, s) -> p.sums(s, 0, 1, 1, 1), 0, 5);
        sentence(4, T);
        Boundary.range("sums(0, t, 1, 1, 1)", Boundary::busy, (p, t) -> p.sums(0, t, 1, 1, 1), 0, 5);
        sentence(4, U);
        Boundary.range("sums(0, 1, 1, u, 1)", Boundary::busy, (p, u) -> p.sums(0, 1, 1, u, 1), 0, 5);
        sentence(4, SUCH + ".");
        Boundary.refused("sums(6, 6, 1, 6, 1)", Boundary::busy, p -> p.sums(6, 6, 1, 6, 1), BAD);
        Boundary.refused("sums(0, 6, 0, 0, 0): a factor 0 makes it no less BAD", Boundary::busy, p -> p.sums(0, 6, 0, 0, 0), BAD);
        Boundary.refused("sums(0, 0, 0, -1, 0)", Boundary::busy, p -> p.sums(0, 0, 0, -1, 0), BAD);
    }

    private static void sumsNumbers() {
        for (int[] r : RESIDUES) {
            Boundary.Probe p = Boundary.with("1", "x");
            sentence(4, "a: the factor of t");
            p.sums(2, 0, r[0], 1, 3);
            due("a = " + r[0], p.at(2, 0, 0), r[1]);
            due("b = 3", p.at(2, 1, 0), 3);
            sentence(4, "b: the factor of u");
            p.sums(2, 0, 4, 1, r[0]);
            due("a = 4", p.at(2, 0, 0), 4);
            due("b = " + r[0], p.at(2, 1, 0), r[1]);
        }
        Boundary.Probe p = Boundary.with("5003*x", "-5003*x+1");
        due("a great product", p.sums(2, 0, 5003, 0, 0), 1);
        due("5003 * 5003", p.at(2, 1, 0), 2502);
        due("the greatest products", p.sums(2, 0, -5003, 1, 5003), 2);
        due("-5003 * 5003 * 2", p.at(2, 1, 0), 5003);
        due("factors that are 10006", p.sums(3, 0, -1, 1, -1), 1);
        due("all but the number is gone", p.text(3), "-1");
        sentence(4, TERMS);
        Boundary.Probe q = fresh();
        for (int i = 0; i <= 12; i++) {
            for (int j = 0; i + j <= 12; j++) {
                q.sets(1, i, j, 1);
            }
        }
        due("all 91 terms", q.sums(0, 1, 5003, 1, 5003), 91);
        due("no term is left", q.sums(0, 1, 5003, 1, 5004), 0);
        due("no term is left, again", q.sums(0, 1, MAX, 1, -MAX), 0);
        due("one term", q.sums(2, 2, 7, 2, 7), 0);
        q.sets(2, 3, 3, 6);
        due("one term is left out", q.sums(3, 1, 6, 2, -1), 90);
        due("it is that one", q.at(3, 3, 3), 0);
    }

    // ---- promise 5

    private static void times() {
        sentence(5, "Sets operator s to the product t u.");
        String[][] replaced = {{"x*d+1", "x"}, {"d", "x*d+1"}, {"d", "x"}};
        for (int s = 0; s < 3; s++) {
            Boundary.Probe p = Boundary.with("d", "x");
            due("times(" + s + ", 0, 1)", p.times(s, 0, 1), 2);
            due("operator 0", p.text(0), replaced[s][0]);
            due("operator 1", p.text(1), replaced[s][1]);
            due("operator s", p.text(s), "x*d+1");
        }
        Boundary.Probe square = Boundary.with("x*d");
        due("times(0, 0, 0)", square.times(0, 0, 0), 2);
        due("(x d)^2", square.text(0), "x^2*d^2+x*d");
        sentence(5, "Change.");
        Boundary.changing("times(2, 5, 0)", Boundary::busy, p -> p.times(2, 5, 0), 4);
        Boundary.changing("times(4, 4, 2), which alters nothing", Boundary::busy, p -> p.times(4, 4, 2), 0);
        Boundary.changing("times(0, 1, 2) at first", BoundaryOperatorsTest::fresh, p -> p.times(0, 1, 2), 0);
        sentence(5, REPLACED);
        Boundary.range("times(s, 0, 1)", Boundary::busy, (p, s) -> p.times(s, 0, 1), 0, 5);
        sentence(5, T);
        Boundary.range("times(0, t, 4)", Boundary::busy, (p, t) -> p.times(0, t, 4), 0, 5);
        sentence(5, U);
        Boundary.range("times(0, 4, u)", Boundary::busy, (p, u) -> p.times(0, 4, u), 0, 5);
        sentence(5, TERMS);
        due("a term that cancels out is not counted", Boundary.with("x+d", "x-d").times(2, 0, 1), 3);
        due("x^2 - d^2 and a number", productText("x+d", "x-d"), "-d^2+x^2+1");
        due("a product of numbers", Boundary.with("5003", "2").times(0, 0, 1), 1);
        due("-1", productText("5003", "2"), "-1");
        due("0 has none", Boundary.with("0", "0").times(2, 0, 1), 0);
        sentence(5, SUCH);
        Boundary.refused("times(6, 2, 2): BAD goes before FULL", Boundary::busy, p -> p.times(6, 2, 2), BAD);
        Boundary.refused("times(0, 2, 6)", Boundary::busy, p -> p.times(0, 2, 6), BAD);
        Boundary.refused("times(0, -1, 2)", Boundary::busy, p -> p.times(0, -1, 2), BAD);
    }

    private static String productText(String t, String u) {
        Boundary.Probe p = Boundary.with(t, u);
        p.times(2, 0, 1);
        return p.text(2);
    }

    private static void timesFull() {
        sentence(5, "FULL if neither t nor u is 0, and their degrees together are above 12.");
        for (int a = 0; a <= 12; a++) {
            for (int b = 0; b <= 12; b++) {
                int x = a, d = b;
                Supplier<Boundary.Probe> maker = () -> degrees(x, d);
                if (a + b > 12) {
                    Boundary.refused("x^" + a + " d^" + b, maker, p -> p.times(2, 0, 1), FULL);
                    Boundary.refused("d^" + b + " x^" + a, maker, p -> p.times(2, 1, 0), FULL);
                } else {
                    Boundary.Probe p = maker.get();
                    due("x^" + a + " d^" + b, p.times(2, 0, 1), (a == 0 ? 1 : 2) * (b == 0 ? 1 : 2));
                    due("its degree", p.of(2, 1), a + b);
                    due("d^" + b + " x^" + a + ": its degree", p.times(2, 1, 0) < 0 ? -1 : p.of(2, 1), a + b);
                }
            }
        }
        Supplier<Boundary.Probe> twelve = () -> Boundary.with("x^6*d^6", "0", "x", "x-x+5", "d^12");
        Boundary.changing("0 times degree 12", twelve, p -> p.times(5, 1, 0), 0);
        Boundary.changing("degree 12 times 0", twelve, p -> p.times(5, 0, 1), 0);
        Boundary.changing("0 times 0", twelve, p -> p.times(5, 1, 1), 0);
        Boundary.changing("degree 12 times a number", twelve, p -> p.times(5, 0, 3), 1);
        Boundary.changing("a number times degree 12", twelve, p -> p.times(5, 3, 4), 1);
        Boundary.refused("degree 12 times x", twelve, p -> p.times(5, 0, 2), FULL);
        Boundary.refused("x times degree 12", twelve, p -> p.times(0, 2, 0), FULL);
        Boundary.refused("degree 12 times degree 12", twelve, p -> p.times(0, 4, 0), FULL);
        Boundary.Probe gone = Boundary.with("x^12+x", "d");
        gone.sets(0, 12, 0, 0);
        due("a term of degree 12 that is gone", gone.times(2, 1, 0), 2);
    }

    // ---- promise 6

    private static void bracket() {
        sentence(6, "Sets operator s to the commutator t u - u t.");
        String[][] replaced = {{"6*x^2*d+6*x", "x^3"}, {"d^2", "6*x^2*d+6*x"}, {"d^2", "x^3"}};
        for (int s = 0; s < 3; s++) {
            Boundary.Probe p = Boundary.with("d^2", "x^3");
            due("bracket(" + s + ", 0, 1)", p.bracket(s, 0, 1), 2);
            due("operator 0", p.text(0), replaced[s][0]);
            due("operator 1", p.text(1), replaced[s][1]);
            due("operator s", p.text(s), "6*x^2*d+6*x");
        }
        Boundary.Probe other = Boundary.with("d^2", "x^3");
        due("bracket(2, 1, 0)", other.bracket(2, 1, 0), 2);
        due("the other way round", other.text(2), "-6*x^2*d-6*x");
        sentence(6, "Change.");
        Boundary.changing("bracket(2, 5, 0)", Boundary::busy, p -> p.bracket(2, 5, 0), 1);
        Boundary.changing("bracket(4, 0, 0), which alters nothing", Boundary::busy, p -> p.bracket(4, 0, 0), 0);
        Boundary.changing("bracket(0, 1, 2) at first", BoundaryOperatorsTest::fresh, p -> p.bracket(0, 1, 2), 0);
        sentence(6, REPLACED);
        Boundary.range("bracket(s, 0, 1)", Boundary::busy, (p, s) -> p.bracket(s, 0, 1), 0, 5);
        sentence(6, T);
        Boundary.range("bracket(0, t, 4)", Boundary::busy, (p, t) -> p.bracket(0, t, 4), 0, 5);
        sentence(6, U);
        Boundary.range("bracket(0, 4, u)", Boundary::busy, (p, u) -> p.bracket(0, 4, u), 0, 5);
        sentence(6, TERMS);
        due("[d, x] is 1", Boundary.with("d", "x").bracket(2, 0, 1), 1);
        due("with itself there is none", Boundary.with("x^3*d^3+d").bracket(1, 0, 0), 0);
        due("numbers commute", Boundary.with("7", "x^12").bracket(2, 0, 1), 0);
        due("0 and 0", Boundary.with("0", "0").bracket(2, 0, 1), 0);
        sentence(6, SUCH);
        Boundary.refused("bracket(6, 2, 2): BAD goes before FULL", Boundary::busy, p -> p.bracket(6, 2, 2), BAD);
        Boundary.refused("bracket(0, 2, 6)", Boundary::busy, p -> p.bracket(0, 2, 6), BAD);
        Boundary.refused("bracket(0, -1, 2)", Boundary::busy, p -> p.bracket(0, -1, 2), BAD);
    }

    private static void bracketFull() {
        sentence(6, "FULL if neither t nor u is 0, and their degrees together are above 12.");
        for (int a = 0; a <= 12; a++) {
            for (int b = 0; b <= 12; b++) {
                int x = a, d = b;
                Supplier<Boundary.Probe> maker = () -> degrees(x, d);
                if (a + b > 12) {
                    Boundary.refused("[x^" + a + ", d^" + b + "]", maker, p -> p.bracket(2, 0, 1), FULL);
                    Boundary.refused("[d^" + b + ", x^" + a + "]", maker, p -> p.bracket(2, 1, 0), FULL);
                } else {
                    Boundary.Probe p = maker.get();
                    due("[d^" + b + ", x^" + a + "]", p.bracket(2, 1, 0), Math.min(a, b));
                    due("its degree", p.of(2, 1), Math.min(a, b) == 0 ? NONE : a + b - 2);
                }
            }
        }
        Supplier<Boundary.Probe> seven = () -> Boundary.with("x^6*d", "0", "x^3*d^3", "x^12", "4");
        Boundary.refused("with itself, of degree 7, though it would be 0", seven, p -> p.bracket(5, 0, 0), FULL);
        Boundary.changing("with itself, of degree 6", seven, p -> p.bracket(5, 2, 2), 0);
        Boundary.refused("degree 12 with itself", seven, p -> p.bracket(3, 3, 3), FULL);
        Boundary.changing("0 with degree 12", seven, p -> p.bracket(5, 1, 3), 0);
        Boundary.changing("degree 12 with 0", seven, p -> p.bracket(5, 3, 1), 0);
        Boundary.changing("degree 12 with a number", seven, p -> p.bracket(5, 3, 4), 0);
        Boundary.changing("0 with itself", seven, p -> p.bracket(5, 1, 1), 0);
    }

    // ---- promise 7

    private static void power() {
        sentence(7, "Sets operator s to a power of t; the power 0 is the operator 1.");
        String[] powers = {"1", "x+d", "d^2+2*x*d+x^2+1", "d^3+3*x*d^2+3*x^2*d+x^3+3*d+3*x"};
        for (int n = 0; n < powers.length; n++) {
            Boundary.Probe p = Boundary.with("x+d");
            p.power(1, 0, n);
            due("(x + d)^" + n, p.text(1), n == 1 ? "d+x" : powers[n]);
            due("what it is a power of", p.text(0), "d+x");
            p.power(0, 0, n);
            due("(x + d)^" + n + " in its own place", p.text(0), n == 1 ? "d+x" : powers[n]);
        }
        for (String base : new String[] {"0", "x^12", "d^12+x", "5003", "1"}) {
            Boundary.Probe p = Boundary.with(base);
            due("(" + base + ")^0", p.power(1, 0, 0), 1);
            due("(" + base + ")^0", p.text(1), "1");
        }
        sentence(7, "Change.");
        Boundary.changing("power(2, 0, 3)", Boundary::busy, p -> p.power(2, 0, 3), 4);
        Boundary.changing("power(5, 5, 1), which alters nothing", Boundary::busy, p -> p.power(5, 5, 1), 2);
        Boundary.changing("power(0, 1, 0) at first", BoundaryOperatorsTest::fresh, p -> p.power(0, 1, 0), 1);
        sentence(7, REPLACED);
        Boundary.range("power(s, 0, 1)", Boundary::busy, (p, s) -> p.power(s, 0, 1), 0, 5);
        sentence(7, T);
        Boundary.range("power(0, t, 1)", Boundary::busy, (p, t) -> p.power(0, t, 1), 0, 5);
        sentence(7, "n: the exponent, 0 to 12");
        Boundary.range("power(0, 5, n)", Boundary::busy, (p, n) -> p.power(0, 5, n), 0, 12);
        Boundary.range("power(0, 4, n) of the operator 0", Boundary::busy, (p, n) -> p.power(0, 4, n), 0, 12);
        sentence(7, TERMS);
        due("(x + d)^12", Boundary.with("x+d").power(1, 0, 12), 49);
        due("(x - 1)^12", Boundary.with("x-1").power(1, 0, 12), 13);
        due("2^12", Boundary.with("2").power(1, 0, 12), 1);
        for (int n = 1; n <= 12; n++) {
            Boundary.Probe p = Boundary.with("0", "2");
            due("0^" + n, p.power(2, 0, n), 0);
            due("0^" + n, p.text(2), "0");
            p.power(2, 1, n);
            due("2^" + n, p.at(2, 0, 0), 1 << n);
        }
        sentence(7, SUCH + ", or n is out of range");
        Boundary.refused("power(6, 2, 2): BAD goes before FULL", Boundary::busy, p -> p.power(6, 2, 2), BAD);
        Boundary.refused("power(0, 2, 13): BAD goes before FULL", Boundary::busy, p -> p.power(0, 2, 13), BAD);
        Boundary.refused("power(0, 2, -1)", Boundary::busy, p -> p.power(0, 2, -1), BAD);
        Boundary.refused("power(0, 4, 13) of the operator 0", Boundary::busy, p -> p.power(0, 4, 13), BAD);
        Boundary.refused("power(0, -1, 0)", Boundary::busy, p -> p.power(0, -1, 0), BAD);
        Boundary.refused("power(0, 6, 0)", Boundary::busy, p -> p.power(0, 6, 0), BAD);
    }

    private static void powerFull() {
        sentence(7, "FULL if t is not 0, and n times its degree is above 12.");
        for (int a = 0; a <= 12; a++) {
            for (int n = 0; n <= 12; n++) {
                int x = a, e = n;
                Supplier<Boundary.Probe> maker = () -> degrees(x, x);
                for (int t = 0; t < 2; t++) {
                    int base = t;
                    String name = (t == 0 ? "x^" : "d^") + a + " to the " + n;
                    if (a * n > 12) {
                        Boundary.refused(name, maker, p -> p.power(2, base, e), FULL);
                    } else {
                        Boundary.Probe p = maker.get();
                        due(name, p.power(2, base, e), a == 0 ? 1 : n + 1);
                        due("its degree", p.of(2, 1), a * n);
                    }
                }
            }
        }
        for (int n = 0; n <= 12; n++) {
            int e = n;
            Boundary.changing("0^" + n, BoundaryOperatorsTest::fresh, p -> p.power(2, 0, e), n == 0 ? 1 : 0);
        }
    }

    // ---- promise 8

    private static void reversed() {
        sentence(8, "Sets operator s to the adjoint of t: each term c x^i d^j becomes (-1)^j c d^j x^i (in normal form).");
        String[][] pairs = {{"0", "0"}, {"7", "7"}, {"x^12", "x^12"}, {"d", "-d"}, {"d^2", "d^2"}, {"-5003*d^3", "5003*d^3"}, {"d^12", "d^12"},
            {"d^11", "-d^11"}, {"x*d", "-x*d-1"}, {"x*d^2", "x*d^2+2*d"}, {"x^2*d", "-x^2*d-2*x"}, {"x^11*d", "-x^11*d-11*x^10"},
            {"x*d^11", "-x*d^11-11*d^10"}, {"x^2*d^3+4*x*d^2-7*d+2", "-x^2*d^3-2*x*d^2+9*d+2"},
            {"x^6*d^6", "x^6*d^6+36*x^5*d^5+450*x^4*d^4+2400*x^3*d^3-4607*x^2*d^2+4320*x*d+720"}};
        for (String[] pair : pairs) {
            Boundary.Probe p = Boundary.with(pair[0]);
            p.reversed(1, 0);
            due("of " + pair[0], p.text(1), pair[1]);
            due("what it is of", p.text(0), pair[0]);
            Boundary.Probe q = Boundary.with(pair[0]);
            q.reversed(0, 0);
            due("of " + pair[0] + " in its own place", q.text(0), pair[1]);
            q.reversed(0, 0);
            due("of that again", q.text(0), pair[0]);
        }
        sentence(8, "Change.");
        Boundary.changing("reversed(2, 0)", Boundary::busy, p -> p.reversed(2, 0), 2);
        Boundary.changing("reversed(3, 3), which alters nothing", Boundary::busy, p -> p.reversed(3, 3), 1);
        Boundary.changing("reversed(0, 1) at first", BoundaryOperatorsTest::fresh, p -> p.reversed(0, 1), 0);
        sentence(8, REPLACED);
        Boundary.range("reversed(s, 0)", Boundary::busy, (p, s) -> p.reversed(s, 0), 0, 5);
        sentence(8, T);
        Boundary.range("reversed(0, t)", Boundary::busy, (p, t) -> p.reversed(0, t), 0, 5);
        sentence(8, TERMS);
        due("x*d", Boundary.with("x*d").reversed(1, 0), 2);
        due("x*d+1, of which the number cancels out", Boundary.with("x*d+1").reversed(1, 0), 1);
        due("x^6*d^6", Boundary.with("x^6*d^6").reversed(1, 0), 7);
        due("0", Boundary.with("0").reversed(1, 0), 0);
        sentence(8, SUCH + ".");
        Boundary.refused("reversed(6, 6)", Boundary::busy, p -> p.reversed(6, 6), BAD);
        Boundary.refused("reversed(0, 6)", Boundary::busy, p -> p.reversed(0, 6), BAD);
        Boundary.refused("reversed(-1, 0)", Boundary::busy, p -> p.reversed(-1, 0), BAD);
    }

    // ---- promise 9

    private static final String[] OPERATORS = {"5*x^4*d-2*x*d^4+3*d^3+x", "7", "-x^12", "d^12", "5003*x^5-5003*d", "x*d^2-x^3"};
    /** What of() tells of them by order 0. */
    private static final int[][] BY_ORDER_0 = {{4, 5, 4, 4, 3, -3, 1, 4, -2}, {1, 0, 0, 0, 0, 0, 0, 0, 7}, {1, 12, 12, 0, -12, -12, 12, 0, -1},
        {1, 12, 0, 12, 12, 12, 0, 12, 1}, {2, 5, 5, 1, 1, -5, 5, 0, 5003}, {2, 3, 3, 2, 1, -3, 1, 2, 1}};
    /** By order 1 the lead is another one, where there are several words of the greatest degree. */
    private static final int[][] LEADS_BY_ORDER_1 = {{4, 1, 5}, {0, 0, 7}, {12, 0, -1}, {0, 12, 1}, {5, 0, 5003}, {3, 0, -1}};

    private static void of() {
        sentence(9, "Returns a property of an operator.");
        Boundary.harmless("of(0, 0)", Boundary::busy, p -> p.of(0, 0), 2);
        Boundary.harmless("of(2, 1)", Boundary::busy, p -> p.of(2, 1), 12);
        sentence(9, "what: 0: the number of terms; 1: the degree; 2: the greatest i of its terms (i, j); 3: the greatest j; 4: the greatest j - i; 5: the least j - i; 6: i of its lead; 7: j of its lead; 8: the coefficient of its lead");
        Boundary.range("of(0, what)", Boundary::busy, (p, what) -> p.of(0, what), 0, 8);
        Boundary.range("of(4, what) of the operator 0", Boundary::busy, (p, what) -> p.of(4, what), 0, 8);
        sentence(9, "Returns the property");
        for (int s = 0; s < 6; s++) {
            Boundary.Probe p = Boundary.with(OPERATORS);
            for (int what = 0; what <= 8; what++) {
                due("of(" + OPERATORS[s] + ", " + what + ")", p.of(s, what), BY_ORDER_0[s][what]);
            }
            p.order(1);
            for (int what = 0; what <= 8; what++) {
                due("of(" + OPERATORS[s] + ", " + what + ") by order 1", p.of(s, what),
                    what < 6 ? BY_ORDER_0[s][what] : LEADS_BY_ORDER_1[s][what - 6]);
            }
        }
        Boundary.Probe full = fresh();
        for (int i = 0; i <= 12; i++) {
            for (int j = 0; i + j <= 12; j++) {
                full.sets(0, i, j, -5003);
            }
        }
        int[] all = {91, 12, 12, 12, 12, -12, 0, 12, -5003};
        for (int what = 0; what <= 8; what++) {
            due("of(all words, " + what + ")", full.of(0, what), all[what]);
        }
        sentence(9, S);
        Boundary.range("of(s, 0)", Boundary::busy, (p, s) -> p.of(s, 0), 0, 5);
    }

    private static void ofNothing() {
        sentence(9, "for the operator 0, this is 0 for 0 and 8, and NONE for 1 to 7");
        for (int what = 0; what <= 8; what++) {
            int w = what;
            int due = what == 0 || what == 8 ? 0 : NONE;
            Boundary.harmless("of(4, " + what + ")", Boundary::busy, p -> p.of(4, w), due);
            Boundary.harmless("of(0, " + what + ") at first", BoundaryOperatorsTest::fresh, p -> p.of(0, w), due);
            Boundary.harmless("of(0, " + what + ") of what has become 0", () -> cancelled(), p -> p.of(0, w), due);
        }
        sentence(9, SUCH + ", or what is out of range.");
        for (int what = -1; what <= 9; what++) {
            int w = what;
            Boundary.refused("of(6, " + what + "): BAD, not NONE", Boundary::busy, p -> p.of(6, w), BAD);
            Boundary.refused("of(-1, " + what + ")", Boundary::busy, p -> p.of(-1, w), BAD);
        }
        Boundary.refused("of(0, 9) at first", BoundaryOperatorsTest::fresh, p -> p.of(0, 9), BAD);
        Boundary.refused("of(0, -1) at first", BoundaryOperatorsTest::fresh, p -> p.of(0, -1), BAD);
    }

    private static Boundary.Probe cancelled() {
        Boundary.Probe p = Boundary.with("x^5*d-3");
        p.sums(0, 0, 5000, 0, 5007);
        return p;
    }

    // ---- promise 10

    private static void order() {
        sentence(10, "Sets the order.");
        Boundary.Probe p = Boundary.with("x+d");
        p.order(1);
        due("told(4) after order(1)", p.told(4), 1);
        due("the text by order 1", p.text(0), "x+d");
        p.order(0);
        due("told(4) after order(0)", p.told(4), 0);
        due("the text by order 0", p.text(0), "d+x");
        sentence(10, "Change.");
        Boundary.changing("order(0)", Boundary::busy, q -> q.order(0), 1);
        Boundary.changing("order(1), which alters nothing", Boundary::busy, q -> q.order(1), 1);
        Boundary.changing("order(0) at first, which alters nothing", BoundaryOperatorsTest::fresh, q -> q.order(0), 0);
        sentence(10, "o: the order, 0 or 1");
        Boundary.range("order(o)", Boundary::busy, (q, o) -> q.order(o), 0, 1);
        sentence(10, "Returns the previous order");
        int[][] steps = {{0, 0}, {1, 0}, {1, 1}, {0, 1}, {0, 0}};
        for (int[] step : steps) {
            due("order(" + step[0] + ")", p.order(step[0]), step[1]);
        }
        sentence(10, "BAD if o is out of range.");
        for (int o : new int[] {-1, 2, 3, MIN, MAX, -2}) {
            Boundary.refused("order(" + o + ") at first", BoundaryOperatorsTest::fresh, q -> q.order(o), BAD);
            Boundary.refused("order(" + o + ")", Boundary::busy, q -> q.order(o), BAD);
        }
    }
}
