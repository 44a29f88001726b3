/** The promises of the document one by one: ordinary inputs, the edges that it names, and wrong inputs. */
public final class PromisesTest {
    private static final int NONE = -20001, BAD = -20002, NO = -20003, FULL = -20004;
    private static final int MAX = Integer.MAX_VALUE, MIN = Integer.MIN_VALUE;
    private static int wrong = 0;
    private static int promise = 0;

    private static void due(String call, long got, long want) {
        if (got != want) {
            wrong++;
            System.out.println("promise " + promise + ": " + call + " answered " + got + ", due is " + want);
        }
    }

    private static void due(String call, String got, String want) {
        if (!got.equals(want)) {
            wrong++;
            System.out.println("promise " + promise + ": " + call + " answered " + got + ", due is " + want);
        }
    }

    private static void typed(WeylWords w, String text) {
        w.clear();
        for (int k = 0; k < text.length(); k++) {
            w.type(text.charAt(k));
        }
    }

    private static int read(WeylWords w, int s, String text) {
        typed(w, text);
        return w.reads(s);
    }

    private static int read(String text) {
        return read(new WeylWords(), 0, text);
    }

    private static String shown(WeylWords w, int s) {
        StringBuilder b = new StringBuilder();
        for (int i = 0; w.shown(s, i) != NONE; i++) {
            b.append((char) w.shown(s, i));
        }
        return b.toString();
    }

    /** An object whose operators 0, 1, .. are the texts. */
    private static WeylWords with(String... texts) {
        WeylWords w = new WeylWords();
        for (int s = 0; s < texts.length; s++) {
            due("reads " + texts[s], read(w, s, texts[s]) >= 0 ? 1 : 0, 1);
        }
        return w;
    }

    /** What a text reads and shows as. */
    private static String normal(String text) {
        return shown(with(text), 0);
    }

    /** A call that must be an error: counted in its count, with nothing else altered. */
    private static void error(WeylWords w, String call, int got, int code, long digestBefore, int[] countsBefore) {
        due(call, got, code);
        for (int k = 0; k < 3; k++) {
            due("told(" + k + ") after " + call, w.told(k), countsBefore[k] + (BAD - code == k ? 1 : 0));
        }
        due("all but the counts after " + call, w.digest() - countShare(w.told(0), w.told(1), w.told(2)), digestBefore);
    }

    /** What the counts add to the digest, for taking them out of it. */
    private static long countShare(long a, long b, long c) {
        return a * power31(TAIL + 5) + b * power31(TAIL + 4) + c * power31(TAIL + 3);
    }

    private static final int TAIL = 6 * (9 + 91) + 2 * 31;

    private static long power31(int n) {
        long p = 1;
        for (int k = 0; k < n; k++) {
            p *= 31;
        }
        return p;
    }

    private static long rest(WeylWords w) {
        return w.digest() - countShare(w.told(0), w.told(1), w.told(2));
    }

    private static int[] counts(WeylWords w) {
        return new int[] {w.told(0), w.told(1), w.told(2)};
    }

    private interface Call {
        int on(WeylWords w);
    }

    private static void error(WeylWords w, String name, Call call, int code) {
        long before = rest(w);
        int[] counts = counts(w);
        error(w, name, call.on(w), code, before, counts);
    }

    /** A change: one more stored state, and back() undoes it. */
    private static void change(WeylWords w, String name, Call call, int answer) {
        WeylWords fresh = w;
        int stored = fresh.told(5);
        long before = fresh.digest();
        due(name, call.on(fresh), answer);
        due("stored states after " + name, fresh.told(5), Math.min(5, stored + 1));
        due("back() after " + name, fresh.back(), Math.min(4, stored));
        if (stored < 5) {
            due("digest after " + name + " and back()", fresh.digest(), before);
        }
        due(name + " again", call.on(fresh), answer);
    }

    public static void main(String[] args) {
        newObject();
        sets();
        at();
        sums();
        times();
        bracket();
        power();
        reversed();
        of();
        order();
        puts();
        rate();
        makes();
        kernel();
        kills();
        rest();
        basis();
        based();
        stairs();
        within();
        type();
        clear();
        reads();
        readsFaults();
        readsFull();
        shown();
        back();
        told();
        digest();
        System.out.println(wrong == 0 ? "all promises are kept" : wrong + " answers are not as due");
        if (wrong != 0) {
            System.exit(1);
        }
    }

    private static void newObject() {
        promise = 1;
        WeylWords w = new WeylWords();
        for (int s = 0; s < 6; s++) {
            WeylWords v = new WeylWords();
            for (int n = 0; n <= 12; n++) {
                for (int j = 0; j <= n; j++) {
                    due("at", v.at(s, n - j, j), 0);
                }
            }
            due("shown", v.shown(s, 0), '0');
        }
        for (int f = 0; f < 2; f++) {
            for (int n = 0; n <= 30; n++) {
                due("rate", w.rate(f, n), 0);
            }
        }
        for (int what = 0; what <= 5; what++) {
            due("told(" + what + ")", w.told(what), 0);
        }
        WeylWords other = new WeylWords();
        other.sets(0, 0, 0, 1);
        due("objects are apart", w.at(0, 0, 0), 0);
    }

    private static void sets() {
        promise = 2;
        WeylWords w = new WeylWords();
        change(w, "sets(0, 3, 4, 17)", x -> x.sets(0, 3, 4, 17), 0);
        change(w, "sets(0, 3, 4, 5004)", x -> x.sets(0, 3, 4, 5004), 17);
        due("5004 stands for -5003", w.sets(0, 3, 4, 5003), -5003);
        due("5003 stays", w.sets(0, 3, 4, -5004), 5003);
        due("-5004 stands for 5003", w.sets(0, 3, 4, 10007), 5003);
        due("10007 stands for 0", w.sets(0, 3, 4, MIN), 0);
        due("the least int", w.sets(0, 3, 4, MAX), signed(MIN));
        due("the greatest int", w.sets(0, 3, 4, 0), signed(MAX));
        due("sets(5, 12, 0, 1)", w.sets(5, 12, 0, 1), 0);
        due("sets(5, 0, 12, 2)", w.sets(5, 0, 12, 2), 0);
        due("at(5, 12, 0)", w.at(5, 12, 0), 1);
        due("at(5, 0, 12)", w.at(5, 0, 12), 2);
        int[][] bad = {{-1, 0, 0}, {6, 0, 0}, {0, -1, 0}, {0, 0, -1}, {0, 13, 0}, {0, 0, 13}, {0, 6, 7}, {0, -1, 5}, {0, MAX, MAX},
            {0, MAX, 1}, {0, MIN, MIN}, {MAX, 0, 0}, {MIN, 0, 0}, {0, 14, -3}};
        for (int[] b : bad) {
            error(w, "sets(" + b[0] + ", " + b[1] + ", " + b[2] + ", 1)", x -> x.sets(b[0], b[1], b[2], 1), BAD);
            promise = 3;
            error(w, "at(" + b[0] + ", " + b[1] + ", " + b[2] + ")", x -> x.at(b[0], b[1], b[2]), BAD);
            promise = 2;
        }
    }

    private static int signed(int c) {
        int r = Math.floorMod(c, 10007);
        return r > 5003 ? r - 10007 : r;
    }

    private static void at() {
        promise = 3;
        WeylWords w = new WeylWords();
        int c = 1;
        for (int i = 0; i <= 12; i++) {
            for (int j = 0; i + j <= 12; j++) {
                w.sets(2, i, j, c++);
            }
        }
        c = 1;
        long before = w.digest();
        for (int i = 0; i <= 12; i++) {
            for (int j = 0; i + j <= 12; j++) {
                due("at(2, " + i + ", " + j + ")", w.at(2, i, j), c++);
                due("at(1, " + i + ", " + j + ")", w.at(1, i, j), 0);
            }
        }
        due("nothing is altered", w.digest(), before);
    }

    private static void sums() {
        promise = 4;
        WeylWords w = with("3*x^2*d-d+5", "x^2*d+d");
        change(w, "sums(2, 0, 2, 1, -6)", x -> x.sums(2, 0, 2, 1, -6), 2);
        due("the sum", shown(w, 2), "-8*d+10");
        change(w, "sums(0, 0, 1, 0, 1)", x -> x.sums(3, 0, 1, 0, 1), 3);
        due("twice", shown(w, 3), "6*x^2*d-2*d+10");
        due("onto itself", w.sums(0, 0, MIN, 1, MAX), 3);
        due("its number", w.at(0, 0, 0), signed(Math.floorMod(MIN, 10007) * 5));
        due("residues of factors", w.sums(4, 1, 10007, 1, -10007), 0);
        due("the operator 0", shown(w, 4), "0");
        error(w, "sums(6, ..)", x -> x.sums(6, 0, 1, 0, 1), BAD);
        error(w, "sums(.., -1, ..)", x -> x.sums(0, -1, 1, 0, 1), BAD);
        error(w, "sums(.., 6, ..)", x -> x.sums(0, 0, 1, 6, 1), BAD);
    }

    private static void times() {
        promise = 5;
        WeylWords w = with("x", "d", "x^6*d^6", "d^6+x", "0");
        change(w, "times(5, 1, 0)", x -> x.times(5, 1, 0), 2);
        due("d x", shown(w, 5), "x*d+1");
        due("x d", w.times(5, 0, 1), 1);
        due("x d", shown(w, 5), "x*d");
        due("onto a factor", w.times(5, 5, 5), 2);
        due("(x d)^2", shown(w, 5), "x^2*d^2+x*d");
        due("0 times much", w.times(5, 4, 2), 0);
        due("much times 0", w.times(5, 2, 4), 0);
        error(w, "times(5, 2, 0): 13", x -> x.times(5, 2, 0), FULL);
        error(w, "times(5, 0, 2): 13", x -> x.times(5, 0, 2), FULL);
        due("just 12", w.times(5, 3, 3), 4);
        due("(d^6 + x)^2", shown(w, 5), "d^12+2*x*d^6+6*d^5+x^2");
        error(w, "times(6, 2, 2): BAD first", x -> x.times(6, 2, 2), BAD);
        error(w, "times(0, -1, 2)", x -> x.times(0, -1, 2), BAD);
        error(w, "times(0, 0, 6)", x -> x.times(0, 0, 6), BAD);
        due("d^6 x^6", normal("d^6*x^6"), "x^6*d^6+36*x^5*d^5+450*x^4*d^4+2400*x^3*d^3-4607*x^2*d^2+4320*x*d+720");
    }

    private static void bracket() {
        promise = 6;
        WeylWords w = with("x^3", "d^2", "x^6*d", "d^6", "0");
        change(w, "bracket(5, 1, 0)", x -> x.bracket(5, 1, 0), 2);
        due("[d^2, x^3]", shown(w, 5), "6*x^2*d+6*x");
        due("the other way", w.bracket(5, 0, 1), 2);
        due("[x^3, d^2]", shown(w, 5), "-6*x^2*d-6*x");
        due("with itself", w.bracket(5, 0, 0), 0);
        due("with 0", w.bracket(5, 4, 2), 0);
        error(w, "bracket(5, 2, 3): 13", x -> x.bracket(5, 2, 3), FULL);
        error(w, "bracket(5, 2, 2): 14, though it would be 0", x -> x.bracket(5, 2, 2), FULL);
        due("onto itself", w.bracket(3, 3, 0), 3);
        due("[d^6, x^3]", shown(w, 3), "18*x^2*d^5+90*x*d^4+120*d^3");
        error(w, "bracket(-1, 2, 2)", x -> x.bracket(-1, 2, 2), BAD);
        error(w, "bracket(0, 6, 2)", x -> x.bracket(0, 6, 2), BAD);
        error(w, "bracket(0, 2, 6)", x -> x.bracket(0, 2, 6), BAD);
    }

    private static void power() {
        promise = 7;
        WeylWords w = with("x+d", "x^5", "0", "3");
        change(w, "power(5, 0, 2)", x -> x.power(5, 0, 2), 4);
        due("(x + d)^2", shown(w, 5), "d^2+2*x*d+x^2+1");
        due("(x + d)^12", w.power(5, 0, 12), 49);
        due("its degree", w.of(5, 1), 12);
        due("0^0", w.power(5, 2, 0), 1);
        due("0^0", shown(w, 5), "1");
        due("0^12", w.power(5, 2, 12), 0);
        due("3^12", w.power(5, 3, 12), 1);
        due("3^12", w.at(5, 0, 0), 1070);
        due("(x^5)^2", w.power(5, 1, 2), 1);
        due("onto itself", w.power(0, 0, 1), 2);
        error(w, "power(5, 1, 3): 15", x -> x.power(5, 1, 3), FULL);
        error(w, "power(5, 0, 13)", x -> x.power(5, 0, 13), BAD);
        error(w, "power(5, 0, -1)", x -> x.power(5, 0, -1), BAD);
        error(w, "power(6, 0, 1)", x -> x.power(6, 0, 1), BAD);
        error(w, "power(0, 6, 1)", x -> x.power(0, 6, 1), BAD);
        error(w, "power(0, 1, least)", x -> x.power(0, 1, MIN), BAD);
    }

    private static void reversed() {
        promise = 8;
        WeylWords w = with("x*d", "x^2*d^3+4*x*d^2-7*d+2");
        change(w, "reversed(5, 0)", x -> x.reversed(5, 0), 2);
        due("of x d", shown(w, 5), "-x*d-1");
        due("again", w.reversed(5, 5), 1);
        due("of that", shown(w, 5), "x*d");
        due("reversed(4, 1)", w.reversed(4, 1), 4);
        due("of a longer one", shown(w, 4), "-x^2*d^3-2*x*d^2+9*d+2");
        due("of 0", w.reversed(4, 3), 0);
        error(w, "reversed(6, 0)", x -> x.reversed(6, 0), BAD);
        error(w, "reversed(0, -1)", x -> x.reversed(0, -1), BAD);
    }

    private static void of() {
        promise = 9;
        WeylWords w = with("5*x^4*d-2*x*d^4+3*d^3+x", "0", "7", "-x^12", "d^12");
        int[] zeroth = {4, 5, 4, 4, 3, -3, 1, 4, -2};
        int[] first = {4, 5, 4, 4, 3, -3, 4, 1, 5};
        int[] nothing = {0, NONE, NONE, NONE, NONE, NONE, NONE, NONE, 0};
        int[] number = {1, 0, 0, 0, 0, 0, 0, 0, 7};
        int[] xs = {1, 12, 12, 0, -12, -12, 12, 0, -1};
        int[] ds = {1, 12, 0, 12, 12, 12, 0, 12, 1};
        for (int what = 0; what <= 8; what++) {
            due("of(0, " + what + ")", w.of(0, what), zeroth[what]);
            due("of(1, " + what + ")", w.of(1, what), nothing[what]);
            due("of(2, " + what + ")", w.of(2, what), number[what]);
            due("of(3, " + what + ")", w.of(3, what), xs[what]);
            due("of(4, " + what + ")", w.of(4, what), ds[what]);
        }
        due("no error is counted", w.told(0), 0);
        w.order(1);
        for (int what = 0; what <= 8; what++) {
            due("of(0, " + what + ") by order 1", w.of(0, what), first[what]);
        }
        error(w, "of(0, 9)", x -> x.of(0, 9), BAD);
        error(w, "of(0, -1)", x -> x.of(0, -1), BAD);
        error(w, "of(6, 0)", x -> x.of(6, 0), BAD);
        error(w, "of(-1, 0)", x -> x.of(-1, 0), BAD);
    }

    private static void order() {
        promise = 10;
        WeylWords w = new WeylWords();
        change(w, "order(0)", x -> x.order(0), 0);
        change(w, "order(1)", x -> x.order(1), 0);
        due("order(1) again", w.order(1), 1);
        due("told(4)", w.told(4), 1);
        error(w, "order(2)", x -> x.order(2), BAD);
        error(w, "order(-1)", x -> x.order(-1), BAD);
        due("back to 0", w.order(0), 1);
    }

    private static void puts() {
        promise = 11;
        WeylWords w = new WeylWords();
        change(w, "puts(1, 30, 5005)", x -> x.puts(1, 30, 5005), 0);
        change(w, "puts(1, 30, 4)", x -> x.puts(1, 30, 4), -5002);
        due("puts(0, 0, least)", w.puts(0, 0, MIN), 0);
        due("its residue", w.puts(0, 0, 0), signed(MIN));
        int[][] bad = {{2, 0}, {-1, 0}, {0, -1}, {0, 31}, {MIN, 0}, {0, MAX}};
        for (int[] b : bad) {
            error(w, "puts(" + b[0] + ", " + b[1] + ", 1)", x -> x.puts(b[0], b[1], 1), BAD);
            promise = 12;
            error(w, "rate(" + b[0] + ", " + b[1] + ")", x -> x.rate(b[0], b[1]), BAD);
            promise = 11;
        }
    }

    private static void rate() {
        promise = 12;
        WeylWords w = new WeylWords();
        for (int n = 0; n <= 30; n++) {
            w.puts(0, n, n + 1);
            w.puts(1, n, -n - 1);
        }
        for (int n = 0; n <= 30; n++) {
            due("rate(0, " + n + ")", w.rate(0, n), n + 1);
            due("rate(1, " + n + ")", w.rate(1, n), -n - 1);
        }
    }

    private static void makes() {
        promise = 13;
        WeylWords w = with("x^2*d-3", "d^3", "x^4*d^3-x^5*d^4", "x", "0", "x^6*d^6");
        w.puts(0, 2, 5);
        w.puts(0, 0, 1);
        change(w, "makes(1, 0, 0)", x -> x.makes(1, 0, 0), 3);
        due("rate(1, 3)", w.rate(1, 3), 10);
        due("rate(1, 2)", w.rate(1, 2), -15);
        due("rate(1, 0)", w.rate(1, 0), -3);
        change(w, "makes(1, 1, 0): 0", x -> x.makes(1, 1, 0), NONE);
        due("rate(1, 3)", w.rate(1, 3), 0);
        due("by the operator 0", w.makes(1, 4, 0), NONE);
        due("onto itself", w.makes(0, 3, 0), 3);
        due("rate(0, 3)", w.rate(0, 3), 5);
        due("rate(0, 0)", w.rate(0, 0), 0);
        w.puts(0, 30, 1);
        error(w, "makes(1, 3, 0): 31", x -> x.makes(1, 3, 0), FULL);
        error(w, "makes(1, 2, 0): 31, each part", x -> x.makes(1, 2, 0), FULL);
        due("x^6 d^6 of x^30", w.makes(1, 5, 0), 30);
        due("x^6 d^6 of x^30", w.rate(1, 30), signed(30 * 29 * 28 * 27 * 26 * 25));
        // (x^4 d^3 - x^5 d^4) x^4 = 24 x^5 - 24 x^5, and nothing of it is above 30
        WeylWords v = with("x^4*d^3-x^5*d^4", "x^7*d^5", "x^12");
        v.puts(0, 4, 1);
        due("parts that cancel out", v.makes(1, 0, 0), NONE);
        due("a derivative that is 0 makes nothing", v.makes(1, 1, 0), NONE);
        due("of the polynomial 0", v.makes(0, 2, 1), NONE);
        WeylWords u = with("x^7*d-26*x^6", "x^8*d^2-25*x^7*d+10*x^6");
        u.puts(0, 26, 1);
        error(u, "makes: 32 cancels out", x -> x.makes(1, 0, 0), FULL);
        u.puts(0, 26, 0);
        u.puts(0, 24, 1);
        due("makes: just 30", u.makes(1, 0, 0), 30);
        due("rate(1, 30)", u.rate(1, 30), -2);
        error(u, "makes: 36", x -> x.makes(0, 0, 1), FULL);
        error(w, "makes(2, 0, 0)", x -> x.makes(2, 0, 0), BAD);
        error(w, "makes(0, 6, 0)", x -> x.makes(0, 6, 0), BAD);
        error(w, "makes(0, 0, -1)", x -> x.makes(0, 0, -1), BAD);
    }

    private static void kernel() {
        promise = 14;
        WeylWords w = with("d^3", "x*d-4", "x*d^2-d", "d-x", "0", "x^6*d^6");
        long before = w.digest();
        due("kernel of d^3 to 15", w.kernel(0, 15), 3);
        due("kernel of d^3 to 1", w.kernel(0, 1), 2);
        due("kernel of x d - 4 to 3", w.kernel(1, 3), 0);
        due("kernel of x d - 4 to 4", w.kernel(1, 4), 1);
        due("kernel of x d^2 - d to 15", w.kernel(2, 15), 2);
        due("kernel of x d^2 - d to 1", w.kernel(2, 1), 1);
        due("kernel of d - x", w.kernel(3, 15), 0);
        due("kernel of 0 to 15", w.kernel(4, 15), 16);
        due("kernel of 0 to 0", w.kernel(4, 0), 1);
        due("kernel of x^6 d^6 to 15", w.kernel(5, 15), 6);
        due("nothing is altered", w.digest(), before);
        due("kernel of x^12 to 15", with("x^12").kernel(0, 15), 0);
        due("kernel of x^11 d - 15 x^10 to 15", with("x^11*d-15*x^10").kernel(0, 15), 1);
        WeylWords v = new WeylWords();
        int[] dense = {3, -7, 11, 5, -2, 1};
        for (int n = 0; n < dense.length; n++) {
            v.puts(0, n, dense[n]);
        }
        v.kills(0, 0);
        due("kernel of what kills a quintic to 4", v.kernel(0, 4), 0);
        due("kernel of what kills a quintic to 5", v.kernel(0, 5), 1);
        read(v, 1, "d^2*x^2-d");
        v.times(2, 1, 0);
        due("kernel of a multiple to 15", v.kernel(2, 15), 1);
        error(w, "kernel(6, 0)", x -> x.kernel(6, 0), BAD);
        error(w, "kernel(-1, 0)", x -> x.kernel(-1, 0), BAD);
        error(w, "kernel(0, 16)", x -> x.kernel(0, 16), BAD);
        error(w, "kernel(0, -1)", x -> x.kernel(0, -1), BAD);
    }

    private static void kills() {
        promise = 15;
        WeylWords w = new WeylWords();
        error(w, "kills(0, 0): 0", x -> x.kills(0, 0), NO);
        w.puts(0, 0, 7);
        change(w, "kills(0, 0): 7", x -> x.kills(0, 0), 1);
        due("7 d", shown(w, 0), "7*d");
        w.puts(0, 11, 2);
        due("kills(0, 0)", w.kills(0, 0), 3);
        due("it", shown(w, 0), "2*x^11*d-22*x^10+7*d");
        due("it makes 0 of it", w.makes(1, 0, 0), NONE);
        w.puts(0, 12, 1);
        error(w, "kills(0, 0): 12", x -> x.kills(0, 0), FULL);
        error(w, "kills(6, 0)", x -> x.kills(6, 0), BAD);
        error(w, "kills(0, 2)", x -> x.kills(0, 2), BAD);
        error(w, "kills(-1, 1): BAD before NO", x -> x.kills(-1, 1), BAD);
        w.puts(0, 12, 0);
        w.puts(0, 30, 1);
        error(w, "kills(0, 0): 30", x -> x.kills(0, 0), FULL);
    }

    private static void rest() {
        promise = 16;
        WeylWords w = with("d^2-x", "x*d-2", "x*d^3-2*d^2-x^2*d+2*x", "0");
        change(w, "rest(4, 2, 3)", x -> x.rest(4, 2, 3), 1);
        due("by d^2 - x first", shown(w, 4), "x");
        due("rest(4, 2, 2)", w.rest(4, 2, 2), 1);
        due("by x d - 2 alone", shown(w, 4), "-2*d^2");
        due("by itself", w.rest(4, 2, 4), 0);
        due("of 0", w.rest(4, 3, 1), 0);
        error(w, "rest(4, 2, 8): operator 3 is 0", x -> x.rest(4, 2, 8), NO);
        error(w, "rest(4, 2, 11): operator 3 is 0", x -> x.rest(4, 2, 11), NO);
        error(w, "rest(4, 2, 0)", x -> x.rest(4, 2, 0), BAD);
        error(w, "rest(4, 2, 64)", x -> x.rest(4, 2, 64), BAD);
        error(w, "rest(4, 2, 65)", x -> x.rest(4, 2, 65), BAD);
        error(w, "rest(4, 2, -1)", x -> x.rest(4, 2, -1), BAD);
        error(w, "rest(6, 2, 8): BAD first", x -> x.rest(6, 2, 8), BAD);
        error(w, "rest(0, -1, 1)", x -> x.rest(0, -1, 1), BAD);
        // the lowest number counts, not the least lead; and the divisor need not be monic
        WeylWords v = with("3*x*d+1", "d+5", "6*x*d", "x^2+d^2");
        due("rest(4, 2, 3)", v.rest(4, 2, 3), 1);
        due("-2", shown(v, 4), "-2");
        due("rest(4, 2, 2)", v.rest(4, 2, 2), 1);
        due("-30 x", shown(v, 4), "-30*x");
        due("lead d^2 by order 0", v.rest(4, 3, 8), 0);
        due("onto a divisor", v.rest(0, 2, 1), 1);
        due("-2", shown(v, 0), "-2");
        WeylWords u = with("x^2+d^2", "x^3", "d^3");
        due("by order 0", u.rest(4, 1, 1), 1);
        due("x^3 stays", shown(u, 4), "x^3");
        due("by order 0", u.rest(4, 2, 1), 2);
        due("d^3", shown(u, 4), "-x^2*d-2*x");
        u.order(1);
        due("by order 1", u.rest(4, 1, 1), 1);
        due("x^3", shown(u, 4), "-x*d^2");
        due("by order 1", u.rest(4, 2, 1), 1);
        due("d^3 stays", shown(u, 4), "d^3");
    }

    private static void basis() {
        promise = 17;
        WeylWords w = with("x*d-2", "d^3", "x*d^2-d", "x^4", "0", "4*x");
        long before = w.digest();
        due("one", w.basis(1), 1);
        due("what kills x^2", w.basis(3), 2);
        due("what kills 1 and x^2", w.basis(6), 2);
        due("the operator 0 alone", w.basis(16), 0);
        due("0 adds nothing", w.basis(19), 2);
        due("everything", w.basis(33), 1);
        due("nothing is altered", w.digest(), before);
        error(w, "basis(8): degree 4", x -> x.basis(8), NO);
        error(w, "basis(15): degree 4", x -> x.basis(15), NO);
        error(w, "basis(0)", x -> x.basis(0), BAD);
        error(w, "basis(64)", x -> x.basis(64), BAD);
        error(w, "basis(72): BAD before NO", x -> x.basis(72), BAD);
        error(w, "basis(-1)", x -> x.basis(-1), BAD);
        w.order(1);
        due("by order 1", w.basis(3), 2);
        due("degree 3 is not too great", with("x^3+d^3").basis(1), 1);
    }

    private static void based() {
        promise = 18;
        WeylWords w = with("5*x*d-10", "d^3", "x^2+d^2+3*x*d", "x^4", "0");
        long before = w.digest();
        // leads in ascending order: x d - 2, then d^3
        due("based(3, 0, 1, 1)", w.based(3, 0, 1, 1), 1);
        due("based(3, 0, 0, 0)", w.based(3, 0, 0, 0), -2);
        due("based(3, 1, 0, 3)", w.based(3, 1, 0, 3), 1);
        due("based(3, 1, 0, 2)", w.based(3, 1, 0, 2), 0);
        due("based(3, 2, 0, 3)", w.based(3, 2, 0, 3), 0);
        due("based(3, MAX, 0, 3)", w.based(3, MAX, 0, 3), 0);
        due("based(3, 0, 15, 15)", w.based(3, 0, 15, 15), 0);
        due("based(4, 0, 1, 1)", w.based(4, 0, 1, 1), 3);
        due("based(16, 0, 0, 0)", w.based(16, 0, 0, 0), 0);
        due("nothing is altered", w.digest(), before);
        error(w, "based(0, 0, 0, 0)", x -> x.based(0, 0, 0, 0), BAD);
        error(w, "based(64, 0, 0, 0)", x -> x.based(64, 0, 0, 0), BAD);
        error(w, "based(1, -1, 0, 0)", x -> x.based(1, -1, 0, 0), BAD);
        error(w, "based(1, 0, -1, 0)", x -> x.based(1, 0, -1, 0), BAD);
        error(w, "based(1, 0, 16, 0)", x -> x.based(1, 0, 16, 0), BAD);
        error(w, "based(1, 0, 0, -1)", x -> x.based(1, 0, 0, -1), BAD);
        error(w, "based(8, 0, 0, 16): BAD before NO", x -> x.based(8, 0, 0, 16), BAD);
        error(w, "based(9, 0, 0, 0): degree 4", x -> x.based(9, 0, 0, 0), NO);
        // a basis is made anew when an operator, the order or the state is another one
        w.sets(0, 0, 0, -15);
        due("after sets", w.based(1, 0, 0, 0), -3);
        w.back();
        due("after back", w.based(1, 0, 0, 0), -2);
        WeylWords v = with("2*x^2+d^2");
        due("lead d^2", v.based(1, 0, 2, 0), 2);
        v.order(1);
        due("lead x^2", v.based(1, 0, 2, 0), 1);
        due("half of d^2", v.based(1, 0, 0, 2), -5003);
        // the tail of one is reduced by the lead of the other
        WeylWords u = with("d^3+x*d+7", "x*d-2");
        due("basis(3)", u.basis(3), 1);
        WeylWords t = with("d^3+x*d-2", "x*d-2");
        due("basis(3)", t.basis(3), 2);
        due("d^3 alone", t.based(3, 1, 0, 3), 1);
        due("d^3 alone", t.based(3, 1, 1, 1), 0);
        due("d^3 alone", t.based(3, 1, 0, 0), 0);
        WeylWords r = with("x^3+x*d+3", "x*d+3");
        due("basis(3)", r.basis(3), 2);
        due("x^3 alone", r.based(3, 1, 3, 0), 1);
        due("x^3 alone", r.based(3, 1, 1, 1), 0);
        due("x^3 alone", r.based(3, 1, 0, 0), 0);
    }

    private static void stairs() {
        promise = 19;
        WeylWords w = with("x*d-2", "d^3", "x^4", "0", "x", "d^3-x");
        long before = w.digest();
        int[] ofBoth = {1, 2, 2, 1, 1};
        for (int n = 0; n <= 4; n++) {
            due("stairs(3, " + n + ")", w.stairs(3, n), ofBoth[n]);
            due("stairs(8, " + n + ")", w.stairs(8, n), n + 1);
            due("stairs(17, " + n + ")", w.stairs(17, n), 0);
        }
        due("stairs(3, 20)", w.stairs(3, 20), 1);
        due("stairs(8, 20)", w.stairs(8, 20), 21);
        due("stairs(32, 20)", w.stairs(32, 20), 3);
        due("nothing is altered", w.digest(), before);
        error(w, "stairs(0, 0)", x -> x.stairs(0, 0), BAD);
        error(w, "stairs(128, 0)", x -> x.stairs(128, 0), BAD);
        error(w, "stairs(1, 21)", x -> x.stairs(1, 21), BAD);
        error(w, "stairs(4, -1): BAD before NO", x -> x.stairs(4, -1), BAD);
        error(w, "stairs(4, 0): degree 4", x -> x.stairs(4, 0), NO);
    }

    private static void within() {
        promise = 20;
        WeylWords w = with("x*d-2", "d^3", "x^9*d^3+x^2*d-2*x", "x^9*d^3+x^2*d-2*x+1", "0");
        long before = w.digest();
        due("within(2, 3)", w.within(2, 3), 1);
        due("within(3, 3)", w.within(3, 3), 0);
        due("within(2, 2)", w.within(2, 2), 0);
        due("within(4, 3)", w.within(4, 3), 1);
        due("within(4, 16)", w.within(4, 16), 1);
        due("within(0, 16)", w.within(0, 16), 0);
        due("nothing is altered", w.digest(), before);
        error(w, "within(0, 4): degree 12", x -> x.within(0, 4), NO);
        error(w, "within(-1, 4): BAD before NO", x -> x.within(-1, 4), BAD);
        error(w, "within(6, 1)", x -> x.within(6, 1), BAD);
        error(w, "within(0, 0)", x -> x.within(0, 0), BAD);
        error(w, "within(0, 64)", x -> x.within(0, 64), BAD);
        WeylWords v = with("x", "d", "1", "x^12");
        due("left ideal: x d is in that of d", read(v, 4, "x*d") == 1 ? v.within(4, 2) : -1, 1);
        due("d x is not", read(v, 4, "d*x") == 2 ? v.within(4, 2) : -1, 0);
        due("x and d make 1", v.within(2, 3), 1);
        due("x^12", v.within(3, 1), 1);
    }

    private static void type() {
        promise = 21;
        WeylWords w = new WeylWords();
        error(w, "type(-1)", x -> x.type(-1), BAD);
        error(w, "type(128)", x -> x.type(128), BAD);
        due("type(0)", w.type(0), 1);
        due("type(127)", w.type(127), 2);
        for (int k = 3; k <= 120; k++) {
            due("type(32)", w.type(32), k);
        }
        error(w, "the byte 121", x -> x.type(32), FULL);
        error(w, "type(128): BAD before FULL", x -> x.type(128), BAD);
        due("its length", w.told(3), 120);
        due("no state is stored", w.told(5), 0);
    }

    private static void clear() {
        promise = 22;
        WeylWords w = new WeylWords();
        due("clear()", w.clear(), 0);
        typed(w, "x+d");
        due("clear()", w.clear(), 3);
        due("told(3)", w.told(3), 0);
        due("clear()", w.clear(), 0);
        due("the text is gone", w.reads(0), -30000);
        due("no state is stored", w.told(5), 0);
        typed(w, " ".repeat(120));
        due("clear()", w.clear(), 120);
        due("there is room again", w.type('x'), 1);
    }

    private static void reads() {
        promise = 23;
        WeylWords w = new WeylWords();
        typed(w, "2*x^2*d-3*(x+d)^2+ 7");
        change(w, "reads(0)", x -> x.reads(0), 5);
        due("it", shown(w, 0), "2*x^2*d-3*d^2-6*x*d-3*x^2+4");
        due("the text stays", w.told(3), 20);
        due("into another one", w.reads(5), 5);
        String[][] pairs = {{"d*x", "x*d+1"}, {"-x", "-x"}, {"-x*d+x*d", "0"}, {"- 2 * x ^ 3", "-2*x^3"}, {"x-d-1", "-d+x-1"},
            {"0", "0"}, {"0^0", "1"}, {"x^0", "1"}, {"x^00", "1"}, {"x^01*d^11*0", "0"}, {"9999", "-8"}, {"5004", "-5003"}, {"5003", "5003"},
            {"0007*d", "7*d"}, {"(x)", "x"}, {"(-x)^3", "-x^3"}, {"-(x-d)", "d-x"}, {"((((((((x))))))))", "x"}, {"(x)*(d)-(d)*(x)", "-1"},
            {"2^12", "4096"}, {"(x+1)*d^2*(d-1)", "x*d^3-x*d^2+d^3-d^2"}, {" x ", "x"}, {"d^2*x*x", "x^2*d^2+4*x*d+2"},
            {"(((x)))^2*((d)^2)", "x^2*d^2"}, {"x*(d*x)", "x^2*d+x"}, {"1-2-3", "-4"}, {"-1+1", "0"}, {"(0)^0", "1"}, {"0*x^12*d^12", "0"},
            {"x*0*x^12", "0"}, {"(x^12-x^12)^12*x^12", "0"}, {"(d+x)*(x)^2*3", "3*x^2*d+3*x^3+6*x"},
            {"(x+d)*(x-d)", "-d^2+x^2+1"}, {"((x)+((d)))*((x)-(d))", "-d^2+x^2+1"}};
        for (String[] pair : pairs) {
            WeylWords v = with(pair[0]);
            String got = shown(v, 0);
            v.clear();
            due("the terms of " + pair[0], sorted(got), sorted(pair[1]));
        }
        error(w, "reads(6)", x -> x.reads(6), BAD);
        error(w, "reads(-1)", x -> x.reads(-1), BAD);
    }

    /** The terms of a text in a sequence that no order alters. */
    private static String sorted(String text) {
        String[] parts = text.replace("-", "+-").split("\\+");
        java.util.Arrays.sort(parts);
        return String.join("+", parts).replaceFirst("^\\+", "");
    }

    private static void readsFaults() {
        Object[][] faults = {{"", 0}, {"   ", 3}, {"-", 1}, {"--x", 1}, {"+x", 0}, {"x+", 2}, {"x+-d", 2}, {"x*-d", 2}, {"x d", 2}, {"xd", 1},
            {"2x", 1}, {"12345", 4}, {"123456", 4}, {"12 34", 3}, {"x^", 2}, {"x^ ", 3}, {"x^x", 2}, {"x^-1", 2}, {"x^13", 2}, {"x^ 13", 3},
            {"x^99+", 2}, {"x^100", 4}, {"x^130", 4}, {"x^012", 4}, {"x^1 2", 4}, {"x^2^3", 3}, {"(x)^2^3", 5}, {"()", 1}, {"(", 1}, {"(x", 2},
            {"x)", 1}, {"(x))", 3}, {"((((((((x)))))))", 16}, {"(((((((((x)))))))))", 8}, {"(-(-(-(-(-(-(-(-(x", 16}, {"((((((((x))))))))*(", 19}, {"((((((((x*(", 10},
            {"x.", 1}, {"X", 0}, {"x+*d", 2}, {"x**d", 2}, {"^2", 0}, {"*x", 0}, {"x^12*d*", 7}, {"x^12*d)", 6}, {"(x+d", 4}, {"(x)(d)", 3},
            {"5 x", 2}, {"(x) 5", 4}, {"\u0000", 0}, {"x\t", 1}, {"x^1d", 3}, {"x^4 ^2", 4}, {")", 0}, {"-)", 1}, {"(x+)", 3}, {"x^(2)", 2}};
        for (Object[] fault : faults) {
            WeylWords w = with("x");
            typed(w, (String) fault[0]);
            long before = w.digest();
            due("reads of '" + fault[0] + "'", w.reads(0), -30000 - (Integer) fault[1]);
            due("nothing is changed or counted", w.digest(), before);
            due("BAD first", w.reads(6), BAD);
        }
        due("120 bytes", read("x+".repeat(60)), -30120);
        due("119 bytes and a space", read("x+".repeat(59) + "x "), 1);
        due("120 digits", read("1".repeat(120)), -30004);
        due("120 parentheses", read("(".repeat(120)), -30008);
    }

    private static void readsFull() {
        String[] texts = {"x^12*d", "x^12*d*0", "(x^2)^7", "(x^7*d^6)", "(x*d)^7", "d^12*(x-x+x)", "x+(d^6*d^6*d)", "(x^13-x^13)".replace("13", "12") + "+x^6*x^7"};
        for (String text : texts) {
            WeylWords w = with("x+d");
            typed(w, text);
            error(w, "reads of " + text, x -> x.reads(0), FULL);
        }
        due("x^12*d^0", normal("x^12*d^0"), "x^12");
        due("(x^2)^6", normal("(x^2)^6"), "x^12");
        due("a fault goes before FULL", read("x^12*d+"), -30007);
    }

    private static void shown() {
        promise = 24;
        WeylWords w = with("x^2*d-3*d^3+x*d-x+d-1", "-x^12", "5003*x^10*d^2-5003", "1", "0");
        due("order 0", shown(w, 0), "-3*d^3+x^2*d+x*d+d-x-1");
        due("order 0", shown(w, 1), "-x^12");
        due("order 0", shown(w, 2), "5003*x^10*d^2-5003");
        due("order 0", shown(w, 3), "1");
        due("order 0", shown(w, 4), "0");
        due("order 0", shown(w, 5), "0");
        due("shown(5, 1)", w.shown(5, 1), NONE);
        due("shown(0, MAX)", w.shown(0, MAX), NONE);
        w.order(1);
        due("order 1", shown(w, 0), "x^2*d-3*d^3+x*d-x+d-1");
        due("no error is counted", w.told(0), 0);
        error(w, "shown(6, 0)", x -> x.shown(6, 0), BAD);
        error(w, "shown(-1, 0)", x -> x.shown(-1, 0), BAD);
        error(w, "shown(0, -1)", x -> x.shown(0, -1), BAD);
        error(w, "shown(0, MIN)", x -> x.shown(0, MIN), BAD);
    }

    private static void back() {
        promise = 25;
        WeylWords w = new WeylWords();
        error(w, "back() at first", x -> x.back(), NO);
        for (int k = 1; k <= 7; k++) {
            w.sets(0, 0, 0, k);
        }
        w.type('x');
        int[] left = {4, 3, 2, 1, 0};
        for (int k = 0; k < 5; k++) {
            due("back()", w.back(), left[k]);
            due("the state", w.at(0, 0, 0), 6 - k);
        }
        error(w, "back() at last", x -> x.back(), NO);
        due("the text stays", w.told(3), 1);
        due("the counts stay", w.told(1), 2);
        due("the state stays", w.at(0, 0, 0), 2);
        w.order(1);
        w.puts(1, 3, 4);
        w.reads(3);
        due("back()", w.back(), 2);
        due("the operator", w.of(3, 0), 0);
        due("back()", w.back(), 1);
        due("the polynomial", w.rate(1, 3), 0);
        due("back()", w.back(), 0);
        due("the order", w.told(4), 0);
        // what comes after back() is stored in its place
        w.sets(1, 0, 0, 1);
        w.sets(1, 0, 0, 2);
        w.back();
        w.sets(1, 0, 0, 3);
        due("back()", w.back(), 1);
        due("the state", w.at(1, 0, 0), 1);
        // an error, a fault and a look store nothing
        w.sets(9, 0, 0, 3);
        w.clear();
        w.reads(0);
        w.digest();
        w.basis(1);
        due("told(5)", w.told(5), 1);
    }

    private static void told() {
        promise = 26;
        WeylWords w = with("x^12");
        w.told(6);
        w.told(-1);
        w.times(0, 0, 0);
        w.kills(0, 0);
        w.basis(1);
        w.kills(1, 1);
        w.order(1);
        int[] numbers = {2, 3, 1, 4, 1, 2};
        for (int what = 0; what <= 5; what++) {
            due("told(" + what + ")", w.told(what), numbers[what]);
        }
        error(w, "told(6)", x -> x.told(6), BAD);
        error(w, "told(MIN)", x -> x.told(MIN), BAD);
    }

    private static void digest() {
        promise = 27;
        due("digest() of a new object", new WeylWords().digest(), computed(0));
        due("digest() of one with something in it", filled(0).digest(), computed(1));
        due("digest() by order 1", filled(1).digest(), computed(2));
        WeylWords w = filled(0);
        w.digest();
        due("digest() alters nothing", w.digest(), computed(1));
    }

    private static WeylWords filled(int order) {
        WeylWords w = with("x^2*d-3*d^3+x*d-x+d-1", "-x^12", "5003*x^10*d^2-5003", "1");
        w.puts(0, 3, 9);
        w.puts(1, 30, -4);
        w.told(7);
        w.kills(7, 7);
        w.order(order);
        return w;
    }

    private static WeylWords ofKind(int kind) {
        return kind == 0 ? new WeylWords() : filled(kind - 1);
    }

    /** What the document says of the checksum; for each operator a new object is asked, as one is used for 512 calls alone. */
    private static long computed(int kind) {
        long h = 2339;
        WeylWords w = ofKind(kind);
        for (int what = 0; what <= 5; what++) {
            h = 31 * h + w.told(what);
        }
        for (int s = 0; s < 6; s++) {
            w = ofKind(kind);
            for (int what = 0; what <= 8; what++) {
                h = 31 * h + w.of(s, what);
            }
            for (int n = 0; n <= 12; n++) {
                for (int j = 0; j <= n; j++) {
                    h = 31 * h + w.at(s, n - j, j);
                }
            }
        }
        w = ofKind(kind);
        for (int f = 0; f < 2; f++) {
            for (int n = 0; n <= 30; n++) {
                h = 31 * h + w.rate(f, n);
            }
        }
        return h;
    }
}
