import java.util.function.Supplier;

/** The boundary cases of the promises 11 to 15. */
public final class BoundaryPolynomialsTest {
    private static final int NONE = Boundary.NONE, BAD = Boundary.BAD, NO = Boundary.NO, FULL = Boundary.FULL;
    private static final int MAX = Boundary.MAX, MIN = Boundary.MIN;
    private static final String F = "f: the polynomial, 0 or 1";
    private static final String S = "s: the operator, 0 to 5";
    private static final String NO_POWER = "BAD if there is no such polynomial, or n is out of range.";
    private static final int[][] RESIDUES = {{0, 0}, {1, 1}, {-1, -1}, {5003, 5003}, {5004, -5003}, {-5003, -5003}, {-5004, 5003}, {10006, -1},
        {10007, 0}, {10008, 1}, {-10006, 1}, {-10007, 0}, {-10008, -1}, {MAX, 1461}, {MIN, -1462}};

    private static void sentence(int promise, String text) {
        Boundary.sentence(promise, text);
    }

    private static void due(String call, long got, long want) {
        Boundary.due(call, got, want);
    }

    private static void due(String call, String got, String want) {
        Boundary.due(call, got, want);
    }

    public static void main(String[] args) throws Exception {
        puts();
        putsOutside();
        rate();
        makes();
        makesArguments();
        makesNumbers();
        makesPowers();
        makesFull();
        kernel();
        kernelSizes();
        kills();
        killsRefused();
        Boundary.finish(11, 15);
    }

    private static Boundary.Probe fresh() {
        return new Boundary.Probe();
    }

    /** An object with one operator, 0, and c x^n as polynomial 0. */
    private static Boundary.Probe applied(String operator, int c, int n) {
        Boundary.Probe p = Boundary.with(operator);
        p.puts(0, n, c);
        p.puts(1, 7, 7);
        return p;
    }

    // ---- promises 11 and 12

    private static void puts() {
        sentence(11, "Sets a coefficient of a polynomial.");
        Boundary.Probe p = fresh();
        StringBuilder zeroth = new StringBuilder();
        StringBuilder first = new StringBuilder();
        for (int n = 0; n <= 30; n++) {
            p.puts(0, n, n + 1);
            p.puts(1, n, -100 - n);
            zeroth.append(n == 0 ? "" : " ").append(n + 1).append("@").append(n);
            first.append(n == 0 ? "" : " ").append(-100 - n).append("@").append(n);
        }
        due("polynomial 0", p.polynomial(0), zeroth.toString());
        due("polynomial 1", p.polynomial(1), first.toString());
        for (int s = 0; s < 6; s++) {
            due("operator " + s, p.of(s, 0), 0);
        }
        sentence(11, "Change.");
        Boundary.changing("puts(0, 2, 8)", Boundary::busy, q -> q.puts(0, 2, 8), 5);
        Boundary.changing("puts(0, 2, 5), which alters nothing", Boundary::busy, q -> q.puts(0, 2, 5), 5);
        Boundary.changing("puts(1, 30, 10003), which alters nothing", Boundary::busy, q -> q.puts(1, 30, 10003), -4);
        Boundary.changing("puts(1, 0, 0) at first", BoundaryPolynomialsTest::fresh, q -> q.puts(1, 0, 0), 0);
        sentence(11, F);
        Boundary.range("puts(f, 0, 1)", Boundary::busy, (q, f) -> q.puts(f, 0, 1), 0, 1);
        sentence(11, "n: the power, 0 to 30");
        Boundary.range("puts(0, n, 1)", Boundary::busy, (q, n) -> q.puts(0, n, 1), 0, 30);
        Boundary.range("puts(1, n, 1)", Boundary::busy, (q, n) -> q.puts(1, n, 1), 0, 30);
    }

    private static void putsOutside() {
        Boundary.Probe p = fresh();
        int before = 0;
        for (int[] r : RESIDUES) {
            sentence(11, "Returns the previous coefficient");
            due("puts(1, 30, " + r[0] + ")", p.puts(1, 30, r[0]), before);
            sentence(11, "c: the new coefficient");
            due("rate(1, 30) after puts(1, 30, " + r[0] + ")", p.rate(1, 30), r[1]);
            before = r[1];
        }
        sentence(11, NO_POWER);
        for (int[] b : new int[][] {{2, 31}, {-1, -1}, {2, 0}, {-1, 30}, {0, 31}, {1, -1}, {1, 31}, {1, 32}, {0, 62}}) {
            Boundary.refused("puts(" + b[0] + ", " + b[1] + ", 1)", Boundary::busy, q -> q.puts(b[0], b[1], 1), BAD);
            Boundary.refused("puts(" + b[0] + ", " + b[1] + ", 0) at first", BoundaryPolynomialsTest::fresh, q -> q.puts(b[0], b[1], 0), BAD);
        }
    }

    private static void rate() {
        sentence(12, "Returns a coefficient of a polynomial.");
        Boundary.harmless("rate(0, 2)", Boundary::busy, p -> p.rate(0, 2), 5);
        Boundary.harmless("rate(1, 2)", Boundary::busy, p -> p.rate(1, 2), 0);
        sentence(12, F);
        Boundary.range("rate(f, 0)", Boundary::busy, (p, f) -> p.rate(f, 0), 0, 1);
        sentence(12, "n: the power, 0 to 30");
        Boundary.range("rate(0, n)", Boundary::busy, (p, n) -> p.rate(0, n), 0, 30);
        Boundary.range("rate(1, n)", Boundary::busy, (p, n) -> p.rate(1, n), 0, 30);
        sentence(12, "Returns the coefficient");
        Boundary.Probe p = fresh();
        int[][] placed = {{0, 0, 5003}, {0, 30, -5003}, {1, 0, -1}, {1, 30, 1}};
        for (int[] r : placed) {
            p.puts(r[0], r[1], r[2]);
        }
        for (int[] r : placed) {
            due("rate(" + r[0] + ", " + r[1] + ")", p.rate(r[0], r[1]), r[2]);
        }
        due("rate(0, 1)", p.rate(0, 1), 0);
        due("rate(0, 29)", p.rate(0, 29), 0);
        sentence(12, NO_POWER);
        for (int[] b : new int[][] {{2, 31}, {-1, -1}, {2, 0}, {-1, 30}, {0, 31}, {1, -1}, {1, 31}, {1, 32}, {0, 62}}) {
            Boundary.refused("rate(" + b[0] + ", " + b[1] + ")", Boundary::busy, q -> q.rate(b[0], b[1]), BAD);
        }
    }

    // ---- promise 13

    private static void makes() {
        sentence(13, "Sets polynomial g to what operator s makes of polynomial f: for each term c x^i d^j, the j-th derivative of f, times c x^i.");
        // 5 x^2 + 1, of which 2 x^3 d - 3 makes 20 x^4 - 15 x^2 - 3
        String given = "1@0 5@2", made = "-3@0 -15@2 20@4";
        for (int f = 0; f < 2; f++) {
            for (int g = 0; g < 2; g++) {
                Boundary.Probe p = Boundary.with("2*x^3*d-3");
                p.puts(f, 2, 5);
                p.puts(f, 0, 1);
                p.puts(1 - f, 9, 9);
                due("makes(" + g + ", 0, " + f + ")", p.makes(g, 0, f), 4);
                due("polynomial g", p.polynomial(g), made);
                due("the other one", p.polynomial(1 - g), g == f ? "9@9" : given);
                due("the operator", p.text(0), "2*x^3*d-3");
            }
        }
        // the j-th derivative of x^n is something as long as j is not above n
        for (int n = 0; n <= 13; n++) {
            for (int j = 0; j <= 12; j++) {
                Boundary.Probe p = fresh();
                p.sets(0, 0, j, 1);
                p.puts(0, n, 1);
                long due = 1;
                for (int k = 0; k < j; k++) {
                    due = due * (n - k) % 10007;
                }
                due("d^" + j + " of x^" + n, p.makes(1, 0, 0), j > n ? NONE : n - j);
                due("its coefficient", p.rate(1, Math.max(0, n - j)), j > n ? 0 : due > 5003 ? due - 10007 : due);
            }
        }
        Boundary.Probe top = applied("x^6*d^6", 1, 30);
        due("x^6 d^6 of x^30", top.makes(1, 0, 0), 30);
        // 30 * 29 * 28 * 27 * 26 * 25 = 427518000, which is 8953 modulo 10007
        due("its coefficient", top.rate(1, 30), -1054);
    }

    private static void makesArguments() {
        sentence(13, "Change.");
        Boundary.changing("makes(1, 0, 0)", Boundary::busy, p -> p.makes(1, 0, 0), NONE);
        Boundary.changing("makes(1, 5, 0)", Boundary::busy, p -> p.makes(1, 5, 0), 3);
        Boundary.changing("makes(0, 0, 0) at first, which alters nothing", BoundaryPolynomialsTest::fresh, p -> p.makes(0, 0, 0), NONE);
        Boundary.changing("1 of x^7, which alters nothing", () -> applied("1", 3, 7), p -> p.makes(0, 0, 0), 7);
        sentence(13, "g: the polynomial that is replaced, 0 or 1");
        Boundary.range("makes(g, 0, 0)", Boundary::busy, (p, g) -> p.makes(g, 0, 0), 0, 1);
        sentence(13, S);
        Boundary.range("makes(0, s, 0)", Boundary::busy, (p, s) -> p.makes(0, s, 0), 0, 5);
        sentence(13, F);
        Boundary.range("makes(0, 0, f)", Boundary::busy, (p, f) -> p.makes(0, 0, f), 0, 1);
        sentence(13, "BAD if there is no such polynomial or operator");
        Boundary.refused("makes(2, 3, 1): BAD goes before FULL", Boundary::busy, p -> p.makes(2, 3, 1), BAD);
        Boundary.refused("makes(-1, 3, 1)", Boundary::busy, p -> p.makes(-1, 3, 1), BAD);
        Boundary.refused("makes(0, 6, 1)", Boundary::busy, p -> p.makes(0, 6, 1), BAD);
        Boundary.refused("makes(0, 3, 2)", Boundary::busy, p -> p.makes(0, 3, 2), BAD);
        Boundary.refused("makes(2, 0, 0) at first: BAD, not NONE", BoundaryPolynomialsTest::fresh, p -> p.makes(2, 0, 0), BAD);
        Boundary.refused("makes(0, 6, 0) at first: BAD, not NONE", BoundaryPolynomialsTest::fresh, p -> p.makes(0, 6, 0), BAD);
        Boundary.refused("makes(0, 0, 2) at first: BAD, not NONE", BoundaryPolynomialsTest::fresh, p -> p.makes(0, 0, 2), BAD);
    }

    private static void makesNumbers() {
        sentence(13, "Sets polynomial g to what operator s makes of polynomial f: for each term c x^i d^j, the j-th derivative of f, times c x^i.");
        int[] greatest = {1, -1, 5003, -5003, 5004};
        for (int j = 0; j <= 12; j++) {
            for (int n = 18; n <= 30; n += 3) {
                int i = Math.min(12 - j, 30 - n);
                long falling = 1;
                for (int k = 0; k < j; k++) {
                    falling = falling * (n - k) % 10007;
                }
                for (int c : greatest) {
                    for (int a : greatest) {
                        Boundary.Probe p = fresh();
                        p.sets(0, i, j, c);
                        p.puts(0, n, a);
                        p.makes(1, 0, 0);
                        long due = Math.floorMod(c * a % 10007 * falling, 10007L);
                        due(c + " x^" + i + " d^" + j + " of " + a + " x^" + n, p.rate(1, n - j + i), due > 5003 ? due - 10007 : due);
                    }
                }
            }
        }
        // one after the other, of which nothing is left over
        Boundary.Probe p = Boundary.with("x", "d", "1", "x^2*d^2");
        p.puts(0, 3, 4);
        String[] due = {"4@4", "12@2", "4@3", "24@3"};
        for (int k = 0; k < 12; k++) {
            p.makes(1, k % 4, 0);
            due("what operator " + k % 4 + " makes of 4 x^3", p.polynomial(1), due[k % 4]);
        }
    }

    private static void makesPowers() {
        sentence(13, "Returns the greatest power of the result, or NONE if it is 0");
        due("1 of 5", applied("1", 5, 0).makes(1, 0, 0), 0);
        due("d of x^30", applied("d", 1, 30).makes(1, 0, 0), 29);
        due("x of x^29", applied("x", 1, 29).makes(1, 0, 0), 30);
        due("the greatest parts cancel out", applied("x*d^2-4*d+2", 1, 5).makes(1, 0, 0), 5);
        due("the part with x^4 cancels out", applied("x*d^2-4*d+x^2*d^4", 1, 5).makes(1, 0, 0), 3);
        Supplier<Boundary.Probe> nothing = () -> applied("d^3", 1, 2);
        Boundary.changing("d^3 of x^2", nothing, p -> p.makes(1, 0, 0), NONE);
        Boundary.changing("d^3 of x^2 in its own place", nothing, p -> p.makes(0, 0, 0), NONE);
        Boundary.changing("the operator 0", nothing, p -> p.makes(1, 3, 0), NONE);
        Boundary.Probe p = nothing.get();
        due("d^3 of x^2", p.makes(1, 0, 0), NONE);
        due("it is 0", p.polynomial(1), "");
        due("NONE is no error", p.told(0) + p.told(1) + p.told(2), 0);
        Boundary.changing("parts that cancel out", () -> applied("x*d-5", 1, 5), q -> q.makes(1, 0, 0), NONE);
        Boundary.changing("parts that cancel out modulo 10007", () -> applied("5003*x+5004*x", 1, 5), q -> q.makes(1, 0, 0), NONE);
    }

    private static void makesFull() {
        sentence(13, "FULL if a term of the operator makes something with a power above 30 (also if such parts cancel out in the sum).");
        for (int i = 0; i <= 12; i++) {
            for (int j = 0; i + j <= 12; j++) {
                for (int n = 30 - i; n <= 30; n++) {
                    String name = "x^" + i + " d^" + j + " of x^" + n;
                    int x = i, d = j, power = n;
                    Supplier<Boundary.Probe> maker = () -> oneTerm(x, d, power);
                    if (n - j + i > 30) {
                        due(name, maker.get().makes(1, 0, 0), FULL);
                    } else {
                        due(name, maker.get().makes(1, 0, 0), n - j + i);
                    }
                }
            }
        }
        Boundary.refused("x of x^30", () -> applied("x", 1, 30), p -> p.makes(1, 0, 0), FULL);
        Boundary.refused("x of x^30 in its own place", () -> applied("x", 1, 30), p -> p.makes(0, 0, 0), FULL);
        Boundary.refused("x^12 of x^19", () -> applied("x^12", 1, 19), p -> p.makes(1, 0, 0), FULL);
        Boundary.changing("x^12 of x^18", () -> applied("x^12", 1, 18), p -> p.makes(1, 0, 0), 30);
        Boundary.refused("one of many terms", () -> applied("d^4-x^2*d^2+x^3*d^2+5", 2, 30), p -> p.makes(1, 0, 0), FULL);
        Boundary.changing("none of many terms", () -> applied("d^4-x^2*d^2+x^2*d^3+5", 2, 30), p -> p.makes(1, 0, 0), 30);
        // 26 x^32 - 26 x^32, and the like right below the edge
        Boundary.refused("parts above 30 cancel out", () -> applied("x^7*d-26*x^6", 1, 26), p -> p.makes(1, 0, 0), FULL);
        Boundary.refused("parts with 31 cancel out", () -> applied("x^7*d-25*x^6", 1, 25), p -> p.makes(1, 0, 0), FULL);
        Boundary.changing("parts with 30 cancel out", () -> applied("x^7*d-24*x^6", 1, 24), p -> p.makes(1, 0, 0), NONE);
        // a derivative that is 0 makes nothing, whatever it is multiplied by
        Boundary.changing("x^7 d^5 of x^4", () -> applied("x^7*d^5", 1, 4), p -> p.makes(1, 0, 0), NONE);
        Boundary.changing("x^12 of 0", () -> Boundary.with("x^12"), p -> p.makes(1, 0, 0), NONE);
        Boundary.changing("x^12 of what has become 0", () -> emptied(), p -> p.makes(1, 0, 0), NONE);
        Boundary.changing("0 of x^30", () -> applied("0", 1, 30), p -> p.makes(1, 0, 0), NONE);
        Boundary.refused("a lesser power of the polynomial does not help", () -> lesser(), p -> p.makes(1, 0, 0), FULL);
    }

    private static Boundary.Probe oneTerm(int i, int j, int n) {
        Boundary.Probe p = fresh();
        p.sets(0, i, j, 1);
        p.puts(0, n, 1);
        return p;
    }

    private static Boundary.Probe emptied() {
        Boundary.Probe p = applied("x^12", 1, 30);
        p.puts(0, 30, 10007);
        return p;
    }

    private static Boundary.Probe lesser() {
        Boundary.Probe p = applied("x^3-d", 1, 28);
        p.puts(0, 2, 5);
        return p;
    }

    // ---- promise 14

    private static void kernel() {
        sentence(14, "Returns the dimension of the space of all polynomials with powers 0 to n of which an operator makes 0.");
        Boundary.harmless("kernel(0, 15)", Boundary::busy, p -> p.kernel(0, 15), 1);
        Boundary.harmless("kernel(4, 15) of 0", Boundary::busy, p -> p.kernel(4, 15), 16);
        sentence(14, S);
        Boundary.range("kernel(s, 3)", Boundary::busy, (p, s) -> p.kernel(s, 3), 0, 5);
        sentence(14, "n: the greatest power, 0 to 15");
        Boundary.range("kernel(0, n)", Boundary::busy, (p, n) -> p.kernel(0, n), 0, 15);
        Boundary.range("kernel(4, n) of 0", Boundary::busy, (p, n) -> p.kernel(4, n), 0, 15);
        sentence(14, "BAD if there is no such operator, or n is out of range.");
        Boundary.refused("kernel(6, 16)", Boundary::busy, p -> p.kernel(6, 16), BAD);
        Boundary.refused("kernel(-1, 0)", Boundary::busy, p -> p.kernel(-1, 0), BAD);
        Boundary.refused("kernel(6, 0)", Boundary::busy, p -> p.kernel(6, 0), BAD);
        Boundary.refused("kernel(0, 16) at first", BoundaryPolynomialsTest::fresh, p -> p.kernel(0, 16), BAD);
        Boundary.refused("kernel(0, -1) at first", BoundaryPolynomialsTest::fresh, p -> p.kernel(0, -1), BAD);
    }

    private static void kernelSizes() {
        sentence(14, "Returns the dimension");
        for (int n = 0; n <= 15; n++) {
            due("of 0 to " + n, fresh().kernel(0, n), n + 1);
            for (int j = 0; j <= 12; j++) {
                Boundary.Probe p = fresh();
                p.sets(0, 0, j, 5);
                p.sets(1, 12 - j, j, -5003);
                due("of d^" + j + " to " + n, p.kernel(0, n), Math.min(j, n + 1));
                due("of x^" + (12 - j) + " d^" + j + " to " + n, p.kernel(1, n), Math.min(j, n + 1));
            }
            for (int m = 0; m <= 16; m++) {
                Boundary.Probe p = fresh();
                p.sets(0, 1, 1, 1);
                p.sets(0, 0, 0, -m);
                p.sets(1, 11, 1, 1);
                p.sets(1, 10, 0, -m);
                due("of x d - " + m + " to " + n, p.kernel(0, n), m <= n ? 1 : 0);
                due("of x^11 d - " + m + " x^10 to " + n, p.kernel(1, n), m <= n ? 1 : 0);
            }
        }
        // what kills a polynomial with all powers to m kills nothing less, and that with one more factor little more
        for (int m = 1; m <= 10; m++) {
            Boundary.Probe p = fresh();
            for (int n = 0; n <= m; n++) {
                p.puts(0, n, n % 2 == 0 ? 5003 - n * n : 7 * n - 1);
            }
            p.kills(0, 0);
            p.read(1, m == 10 ? "1" : "d-1");
            p.times(1, 1, 0);
            for (int n = 0; n <= 15; n++) {
                due("of what kills all powers to " + m + ", to " + n, p.kernel(0, n), n < m ? 0 : 1);
                due("of a multiple of it, to " + n, p.kernel(1, n), n < m ? 0 : 1);
            }
        }
        // x is made c times what 1 is made, so that 1 is taken away from it any number of times
        for (String c : new String[] {"+0", "+1", "-1", "+2", "-2", "+5003", "-5003"}) {
            String operator = "(x+1)*((x" + c + ")*d-1)";
            Boundary.Probe p = Boundary.with(operator);
            due("of " + operator + " to 0", p.kernel(0, 0), 0);
            for (int n = 1; n <= 15; n++) {
                due("of " + operator + " to " + n, p.kernel(0, n), 1);
            }
        }
        // all that kills (x + 1)^15 does not kill what is less
        Boundary.Probe p = Boundary.with("x*d+d-15", "(x*d+d-15)*(x*d+d-14)", "d-x", "d+1");
        for (int n = 0; n <= 15; n++) {
            due("of (x + 1) d - 15 to " + n, p.kernel(0, n), n == 15 ? 1 : 0);
            due("of that for 14 and 15 to " + n, p.kernel(1, n), Math.max(0, n - 13));
            due("of d - x to " + n, p.kernel(2, n), 0);
            due("of d + 1 to " + n, p.kernel(3, n), 0);
        }
    }

    // ---- promise 15

    private static void kills() {
        sentence(15, "Sets operator s to f d - f', where f is a polynomial (as an operator in x alone) and f' its derivative.");
        Object[][] cases = {{7, 0, "7*d"}, {1, 1, "x*d-1"}, {-1, 2, "-x^2*d+2*x"}, {5003, 1, "5003*x*d-5003"}, {5003, 2, "5003*x^2*d+x"},
            {1, 10, "x^10*d-10*x^9"}, {2, 11, "2*x^11*d-22*x^10"}};
        for (Object[] c : cases) {
            for (int f = 0; f < 2; f++) {
                Boundary.Probe p = fresh();
                p.puts(f, (Integer) c[1], (Integer) c[0]);
                p.kills(3, f);
                due("of " + c[0] + " x^" + c[1], p.text(3), (String) c[2]);
                due("the polynomial", p.rate(f, (Integer) c[1]), (Integer) c[0]);
            }
        }
        Boundary.Probe all = fresh();
        for (int n = 0; n <= 11; n++) {
            all.puts(1, n, n + 2);
        }
        due("of 12 powers", all.kills(0, 1), 23);
        for (int n = 0; n <= 11; n++) {
            due("its x^" + n + " d", all.at(0, n, 1), n + 2);
            due("its x^" + n, all.at(0, n, 0), n == 11 ? 0 : -(n + 1) * (n + 3));
        }
        sentence(15, "(It makes 0 of f.)");
        due("what it makes of f", all.makes(0, 0, 1), NONE);
        due("its kernel to 10", all.kernel(0, 10), 0);
        due("its kernel to 11", all.kernel(0, 11), 1);
        sentence(15, "Change.");
        Boundary.changing("kills(2, 0)", Boundary::busy, p -> p.kills(2, 0), 2);
        Boundary.changing("kills(0, 0), which alters nothing", () -> killed(), p -> p.kills(0, 0), 1);
        sentence(15, "s: the operator that is replaced, 0 to 5");
        Boundary.range("kills(s, 0)", Boundary::busy, (p, s) -> p.kills(s, 0), 0, 5);
        sentence(15, F);
        Boundary.range("kills(0, f)", Boundary::busy, (p, f) -> p.kills(0, f), 0, 1);
        sentence(15, "Returns the number of terms of the result");
        due("of a number", killed().kills(1, 0), 1);
        due("of x^2", applied("0", 1, 2).kills(1, 0), 2);
        due("what was there before counts no more", applied("x^5+x^3+x", 1, 2).kills(0, 0), 2);
    }

    private static Boundary.Probe killed() {
        Boundary.Probe p = fresh();
        p.puts(0, 0, 5);
        p.kills(0, 0);
        return p;
    }

    private static void killsRefused() {
        sentence(15, "BAD if there is no such operator or polynomial");
        Boundary.refused("kills(6, 0) at first: BAD goes before NO", BoundaryPolynomialsTest::fresh, p -> p.kills(6, 0), BAD);
        Boundary.refused("kills(-1, 0) at first: BAD goes before NO", BoundaryPolynomialsTest::fresh, p -> p.kills(-1, 0), BAD);
        Boundary.refused("kills(0, 2) at first", BoundaryPolynomialsTest::fresh, p -> p.kills(0, 2), BAD);
        Boundary.refused("kills(0, -1) at first", BoundaryPolynomialsTest::fresh, p -> p.kills(0, -1), BAD);
        Boundary.refused("kills(6, 1): BAD goes before FULL", Boundary::busy, p -> p.kills(6, 1), BAD);
        Boundary.refused("kills(-1, 1): BAD goes before FULL", Boundary::busy, p -> p.kills(-1, 1), BAD);
        sentence(15, "NO if the polynomial is 0");
        Boundary.refused("kills(0, 0) at first", BoundaryPolynomialsTest::fresh, p -> p.kills(0, 0), NO);
        Boundary.refused("kills(5, 1) at first", BoundaryPolynomialsTest::fresh, p -> p.kills(5, 1), NO);
        Boundary.refused("kills(0, 0) of what has become 0", () -> emptied(), p -> p.kills(0, 0), NO);
        Boundary.changing("the other one is 0", () -> otherIsZero(), p -> p.kills(0, 1), 1);
        Boundary.refused("the other one is not 0", () -> otherIsZero(), p -> p.kills(0, 0), NO);
        sentence(15, "FULL if it has a power above 11.");
        for (int n = 0; n <= 30; n++) {
            int power = n;
            if (n <= 11) {
                Boundary.changing("x^" + n, () -> applied("x", 3, power), p -> p.kills(0, 0), n == 0 ? 1 : 2);
            } else {
                Boundary.refused("x^" + n, () -> applied("x", 3, power), p -> p.kills(0, 0), FULL);
                Boundary.refused("x^" + n + " and more", () -> withLess(power), p -> p.kills(0, 0), FULL);
            }
        }
        Boundary.changing("a power of 12 that is gone", () -> gone(), p -> p.kills(0, 0), 2);
        Boundary.changing("the other one has a power of 30", Boundary::busy, p -> p.kills(0, 0), 2);
        Boundary.refused("this one has a power of 30", Boundary::busy, p -> p.kills(0, 1), FULL);
    }

    private static Boundary.Probe otherIsZero() {
        Boundary.Probe p = fresh();
        p.puts(1, 0, 4);
        return p;
    }

    private static Boundary.Probe withLess(int n) {
        Boundary.Probe p = applied("x", 3, n);
        p.puts(0, 2, 2);
        return p;
    }

    private static Boundary.Probe gone() {
        Boundary.Probe p = withLess(12);
        p.puts(0, 12, 0);
        return p;
    }
}
