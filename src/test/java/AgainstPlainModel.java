import java.util.ArrayList;
import java.util.List;
import java.util.Random;

/**
 * Random runs of calls, each answer compared with a slow model that computes everything in another way: products by
 * moving one d past one x at a time, bases and membership by linear algebra on all multiples up to a degree, texts by
 * recursive descent with exceptions, states by copies of all objects.
 */
public final class AgainstPlainModel {
    private static final int P = 10007;
    private static final int RUNS = 600;
    /** With the digest after each of them these are the 512 calls that an object is used for. */
    private static final int CALLS = 256;

    public static void main(String[] args) {
        int wrong = 0;
        long calls = 0;
        for (int run = 0; run < RUNS && wrong < 5; run++) {
            Random random = new Random(7000L + run);
            WeylWords real = new WeylWords();
            Model model = new Model();
            List<String> told = new ArrayList<>();
            Caller caller = new Caller(random, run);
            for (int k = 0; k < CALLS; k++) {
                int[] call = caller.next();
                long got = onReal(real, call);
                long due = onModel(model, call);
                told.add(name(call) + " -> " + got);
                calls++;
                if (got != due || real.digest() != model.digest()) {
                    wrong++;
                    System.out.println("run " + run + ", call " + k + ": " + name(call) + " answered " + got + ", due is " + due
                        + (got == due ? " (the digests differ)" : ""));
                    for (int m = Math.max(0, told.size() - 12); m < told.size(); m++) {
                        System.out.println("    " + told.get(m));
                    }
                    break;
                }
            }
        }
        System.out.println(calls + " random calls, " + wrong + " runs wrong");
        if (wrong > 0) {
            System.exit(1);
        }
    }

    private static final String[] NAMES = {"sets", "at", "sums", "times", "bracket", "power", "reversed", "of", "order", "puts", "rate",
        "makes", "kernel", "kills", "rest", "basis", "based", "stairs", "within", "type", "clear", "reads", "shown", "back", "told"};

    private static String name(int[] c) {
        StringBuilder b = new StringBuilder(NAMES[c[0]]).append('(');
        for (int k = 1; k < c.length; k++) {
            b.append(k > 1 ? ", " : "").append(c[k]);
        }
        return b.append(')').toString();
    }

    private static long onReal(WeylWords w, int[] c) {
        switch (c[0]) {
            case 0: return w.sets(c[1], c[2], c[3], c[4]);
            case 1: return w.at(c[1], c[2], c[3]);
            case 2: return w.sums(c[1], c[2], c[3], c[4], c[5]);
            case 3: return w.times(c[1], c[2], c[3]);
            case 4: return w.bracket(c[1], c[2], c[3]);
            case 5: return w.power(c[1], c[2], c[3]);
            case 6: return w.reversed(c[1], c[2]);
            case 7: return w.of(c[1], c[2]);
            case 8: return w.order(c[1]);
            case 9: return w.puts(c[1], c[2], c[3]);
            case 10: return w.rate(c[1], c[2]);
            case 11: return w.makes(c[1], c[2], c[3]);
            case 12: return w.kernel(c[1], c[2]);
            case 13: return w.kills(c[1], c[2]);
            case 14: return w.rest(c[1], c[2], c[3]);
            case 15: return w.basis(c[1]);
            case 16: return w.based(c[1], c[2], c[3], c[4]);
            case 17: return w.stairs(c[1], c[2]);
            case 18: return w.within(c[1], c[2]);
            case 19: return w.type(c[1]);
            case 20: return w.clear();
            case 21: return w.reads(c[1]);
            case 22: return w.shown(c[1], c[2]);
            case 23: return w.back();
            default: return w.told(c[1]);
        }
    }

    private static long onModel(Model w, int[] c) {
        switch (c[0]) {
            case 0: return w.sets(c[1], c[2], c[3], c[4]);
            case 1: return w.at(c[1], c[2], c[3]);
            case 2: return w.sums(c[1], c[2], c[3], c[4], c[5]);
            case 3: return w.times(c[1], c[2], c[3]);
            case 4: return w.bracket(c[1], c[2], c[3]);
            case 5: return w.power(c[1], c[2], c[3]);
            case 6: return w.reversed(c[1], c[2]);
            case 7: return w.of(c[1], c[2]);
            case 8: return w.order(c[1]);
            case 9: return w.puts(c[1], c[2], c[3]);
            case 10: return w.rate(c[1], c[2]);
            case 11: return w.makes(c[1], c[2], c[3]);
            case 12: return w.kernel(c[1], c[2]);
            case 13: return w.kills(c[1], c[2]);
            case 14: return w.rest(c[1], c[2], c[3]);
            case 15: return w.basis(c[1]);
            case 16: return w.based(c[1], c[2], c[3], c[4]);
            case 17: return w.stairs(c[1], c[2]);
            case 18: return w.within(c[1], c[2]);
            case 19: return w.type(c[1]);
            case 20: return w.clear();
            case 21: return w.reads(c[1]);
            case 22: return w.shown(c[1], c[2]);
            case 23: return w.back();
            default: return w.told(c[1]);
        }
    }

    /** Makes calls that mostly succeed, with wrong and extreme arguments among them. */
    private static final class Caller {
        final Random random;
        final int kind;
        final List<int[]> queue = new ArrayList<>();

        Caller(Random random, int run) {
            this.random = random;
            this.kind = run % 5;
            for (int s = 0; s < 6; s++) {
                int degree = kind == 4 ? 2 + random.nextInt(5) : 1 + random.nextInt(3);
                int terms = 1 + random.nextInt(5);
                for (int k = 0; k < terms; k++) {
                    int i = random.nextInt(degree + 1);
                    queue.add(new int[] {0, s, i, random.nextInt(degree + 1 - i), number()});
                }
            }
            queue.add(new int[] {9, 0, random.nextInt(31), number()});
            queue.add(new int[] {9, 1, random.nextInt(12), 1});
        }

        int[] next() {
            if (!queue.isEmpty()) {
                return queue.remove(0);
            }
            int roll = random.nextInt(100);
            if (roll < 14) {
                typeText();
                return queue.remove(0);
            }
            if (roll == 14) {
                denseKernel();
                return queue.remove(0);
            }
            if (roll < 18 && kind < 4) {
                properIdeal();
                return queue.remove(0);
            }
            if (roll < 26) {
                int degree = kind == 0 ? 3 : 1 + random.nextInt(4);
                int i = random.nextInt(degree + 1);
                return spoilt(new int[] {0, op(), i, random.nextInt(degree + 1 - i), number()});
            }
            if (roll < 44 && kind != 4) {
                return spoilt(ofBases());
            }
            return spoilt(other());
        }

        /** An operator that kills a polynomial with many terms, and a multiple of it. */
        private void denseKernel() {
            int s = random.nextInt(6);
            int t = (s + 1) % 6;
            queue.add(new int[] {2, s, s, 0, s, 0});
            queue.add(new int[] {11, 0, s, 0});
            int top = 2 + random.nextInt(5);
            for (int n = 0; n <= top; n++) {
                queue.add(new int[] {9, 0, n, 1 + random.nextInt(10006)});
            }
            queue.add(new int[] {13, s, 0});
            sparse(t, 1 + random.nextInt(3));
            queue.add(new int[] {3, t, t, s});
            for (int n : new int[] {top - 1, top, top + 1, 15}) {
                queue.add(new int[] {12, s, n});
                queue.add(new int[] {12, t, n});
            }
        }

        /** Random operators soon make the whole algebra; these have a right factor or a killed polynomial in common. */
        private void properIdeal() {
            int s = random.nextInt(6);
            int t = (s + 1 + random.nextInt(5)) % 6;
            int way = random.nextInt(4);
            if (way == 0) {
                graded(s);
                graded(t);
            } else if (way == 3) {
                // x d + n and x^n have a derivative of the delta function in common
                int n = 1 + random.nextInt(3);
                sparse(s, 0);
                sparse(t, 0);
                queue.add(new int[] {0, s, 1, 1, 1});
                queue.add(new int[] {0, s, 0, 0, n});
                queue.add(new int[] {0, t, n, 0, 1});
                queue.add(new int[] {2, t, t, number(), s, number()});
            } else if (way == 1) {
                int f = random.nextInt(2);
                queue.add(new int[] {2, s, s, 0, s, 0});
                queue.add(new int[] {11, f, s, f});
                for (int n = 0; n < 3; n++) {
                    queue.add(new int[] {9, f, n, number()});
                }
                queue.add(new int[] {13, s, f});
                sparse(t, 0);
                queue.add(new int[] {0, t, 0, 3, 1});
            } else {
                int u = 15 - s - t > 12 ? 0 : (t + 1 == s ? t + 2 : t + 1) % 6;
                sparse(u, 1 + random.nextInt(2));
                for (int v : new int[] {s, t}) {
                    sparse(v, 1 + random.nextInt(2));
                    queue.add(new int[] {3, v, v, u});
                }
            }
            int set = 1 << s | 1 << t;
            queue.add(new int[] {15, set});
            for (int k = 0; k < 12; k++) {
                queue.add(new int[] {16, set, random.nextInt(4), random.nextInt(4), random.nextInt(4)});
            }
            queue.add(new int[] {8, random.nextInt(2)});
            queue.add(new int[] {15, set});
            for (int n = 0; n < 6; n++) {
                queue.add(new int[] {17, set, n});
                queue.add(new int[] {18, n, set});
            }
        }

        /** Sets an operator to terms with the same j - i, as they have x^n for eigenvectors or shift it. */
        private void graded(int s) {
            int shift = random.nextInt(7) - 3;
            queue.add(new int[] {2, s, s, 0, s, 0});
            for (int i = Math.max(0, -shift); 2 * i + shift <= 3; i++) {
                queue.add(new int[] {0, s, i, i + shift, random.nextInt(7) - 3});
            }
        }

        /** Sets an operator to a few random terms up to a degree. */
        private void sparse(int s, int degree) {
            queue.add(new int[] {2, s, s, 0, s, 0});
            for (int k = 0; k < degree * 2; k++) {
                int i = random.nextInt(degree + 1);
                queue.add(new int[] {0, s, i, random.nextInt(degree + 1 - i), number()});
            }
        }

        private int[] ofBases() {
            int set = 1 + random.nextInt(63);
            if (random.nextBoolean()) {
                set = (1 << random.nextInt(6)) | (1 << random.nextInt(6));
            }
            switch (random.nextInt(5)) {
                case 0: return new int[] {15, set};
                case 1: case 2:
                    for (int k = 0; k < 4; k++) {
                        queue.add(new int[] {16, set, random.nextInt(4), random.nextInt(5), random.nextInt(5)});
                    }
                    return new int[] {16, set, random.nextInt(5), random.nextInt(16), random.nextInt(16)};
                case 3: return new int[] {17, set, random.nextInt(21)};
                default: return new int[] {18, op(), set};
            }
        }

        private int[] other() {
            switch (random.nextInt(22)) {
                case 0: return new int[] {1, op(), random.nextInt(7), random.nextInt(7)};
                case 1: return new int[] {2, op(), op(), number(), op(), number()};
                case 2: return new int[] {3, op(), op(), op()};
                case 3: return new int[] {4, op(), op(), op()};
                case 4: return new int[] {5, op(), op(), random.nextInt(5)};
                case 5: return new int[] {6, op(), op()};
                case 6: return new int[] {7, op(), random.nextInt(9)};
                case 7: return new int[] {8, random.nextInt(2)};
                case 8: case 9: return new int[] {9, random.nextInt(2), random.nextInt(random.nextBoolean() ? 8 : 31), number()};
                case 10: return new int[] {10, random.nextInt(2), random.nextInt(31)};
                case 11: return new int[] {11, random.nextInt(2), op(), random.nextInt(2)};
                case 12: return new int[] {12, op(), random.nextInt(16)};
                case 13: return new int[] {13, op(), random.nextInt(2)};
                case 14: case 15: return new int[] {14, op(), op(), random.nextBoolean() ? 1 << op() : 1 + random.nextInt(63)};
                case 16: return new int[] {23};
                case 17: return new int[] {24, random.nextInt(6)};
                case 18: return new int[] {2, op(), op(), 0, op(), 0};
                case 19: return new int[] {5, op(), op(), random.nextInt(13)};
                default:
                    int s = op();
                    for (int k = 0; k < 6; k++) {
                        queue.add(new int[] {22, s, random.nextInt(30)});
                    }
                    return new int[] {22, s, random.nextInt(300)};
            }
        }

        private int op() {
            return random.nextInt(6);
        }

        private int number() {
            switch (random.nextInt(6)) {
                case 0: return random.nextInt();
                case 1: return 5003 + random.nextInt(3);
                case 2: return random.nextInt(5) * P;
                default: return random.nextInt(7) - 3;
            }
        }

        private int[] spoilt(int[] call) {
            if (call.length > 1 && random.nextInt(12) == 0) {
                int[] edges = {-1, 6, 2, 13, 12, 16, 15, 21, 31, 64, 63, 0, 9, 120, Integer.MAX_VALUE, Integer.MIN_VALUE};
                call[1 + random.nextInt(call.length - 1)] = edges[random.nextInt(edges.length)];
            }
            return call;
        }

        private void typeText() {
            StringBuilder b = new StringBuilder();
            expression(b, random.nextInt(3));
            String t = b.toString();
            if (random.nextInt(3) == 0) {
                t = broken(t);
            }
            if (t.length() > 60 && random.nextInt(4) > 0) {
                t = t.substring(0, 60);
            }
            if (random.nextInt(30) == 0) {
                t = "(".repeat(random.nextInt(11)) + "x" + ")".repeat(random.nextInt(11));
            }
            if (random.nextInt(kind == 4 ? 2 : 8) > 0) {
                queue.add(new int[] {20});
            }
            for (int k = 0; k < t.length(); k++) {
                queue.add(new int[] {19, t.charAt(k)});
            }
            queue.add(spoilt(new int[] {21, op()}));
        }

        private String broken(String t) {
            String bytes = "+-*^() 0123456789xd.%";
            char c = random.nextInt(20) == 0 ? (char) random.nextInt(128) : bytes.charAt(random.nextInt(bytes.length()));
            int at = random.nextInt(t.length() + 1);
            if (random.nextBoolean() && at < t.length()) {
                return t.substring(0, at) + c + t.substring(at + 1);
            }
            return random.nextBoolean() ? t.substring(0, at) + c + t.substring(at) : t.substring(0, at);
        }

        private void expression(StringBuilder b, int depth) {
            if (random.nextInt(4) == 0) {
                b.append('-');
            }
            int terms = 1 + random.nextInt(3);
            for (int k = 0; k < terms; k++) {
                if (k > 0) {
                    b.append(random.nextBoolean() ? '+' : '-');
                }
                int factors = 1 + random.nextInt(3);
                for (int m = 0; m < factors; m++) {
                    if (m > 0) {
                        b.append('*');
                    }
                    factor(b, depth);
                }
            }
        }

        private void factor(StringBuilder b, int depth) {
            if (random.nextInt(6) == 0) {
                b.append(' ');
            }
            int roll = random.nextInt(8);
            boolean open = false;
            if (roll < 3) {
                b.append('x');
            } else if (roll < 6) {
                b.append('d');
            } else if (roll == 6 && depth > 0) {
                open = true;
                b.append('(');
                expression(b, depth - 1);
                b.append(')');
            } else {
                b.append(random.nextInt(random.nextBoolean() ? 10 : 10000));
            }
            if (random.nextInt(3) == 0) {
                b.append(random.nextInt(8) == 0 ? " ^ " : "^");
                b.append(random.nextInt(12) == 0 ? random.nextInt(15) : random.nextInt(open ? 3 : 4));
            }
        }
    }

    /** The document in its slowest words. */
    private static final class Model {
        static final int NONE = -20001, BAD = -20002, NO = -20003, FULL = -20004;
        /** op[s][i][j] */
        int[][][] op = new int[6][13][13];
        int[][] pol = new int[2][31];
        int order = 0;
        final List<Object[]> states = new ArrayList<>();
        final int[] counts = new int[3];
        String text = "";

        private int error(int code) {
            counts[BAD - code]++;
            return code;
        }

        private void store() {
            int[][][] o = new int[6][13][];
            for (int s = 0; s < 6; s++) {
                for (int i = 0; i < 13; i++) {
                    o[s][i] = op[s][i].clone();
                }
            }
            states.add(new Object[] {o, new int[][] {pol[0].clone(), pol[1].clone()}, order});
            if (states.size() > 5) {
                states.remove(0);
            }
        }

        int back() {
            if (states.isEmpty()) {
                return error(NO);
            }
            Object[] last = states.remove(states.size() - 1);
            op = (int[][][]) last[0];
            pol = (int[][]) last[1];
            order = (Integer) last[2];
            return states.size();
        }

        private static int sign(int r) {
            int v = Math.floorMod(r, P);
            return v <= 5003 ? v : v - P;
        }

        private static boolean noOp(int s) {
            return s < 0 || s > 5;
        }

        private static boolean noWord(int i, int j) {
            return i < 0 || j < 0 || (long) i + j > 12;
        }

        private static int degree(int[][] a) {
            int n = -1;
            for (int i = 0; i < a.length; i++) {
                for (int j = 0; j < a[i].length; j++) {
                    if (a[i][j] != 0) {
                        n = Math.max(n, i + j);
                    }
                }
            }
            return n;
        }

        private static int terms(int[][] a) {
            int n = 0;
            for (int[] row : a) {
                for (int c : row) {
                    n += c != 0 ? 1 : 0;
                }
            }
            return n;
        }

        private static int[][] copy(int[][] a) {
            int[][] b = new int[a.length][];
            for (int i = 0; i < a.length; i++) {
                b[i] = a[i].clone();
            }
            return b;
        }

        private static int[][] plus(int[][] a, long x, int[][] b, long y) {
            int[][] r = new int[13][13];
            for (int i = 0; i < 13; i++) {
                for (int j = 0; j < 13; j++) {
                    r[i][j] = (int) Math.floorMod(Math.floorMod(x, (long) P) * a[i][j] + Math.floorMod(y, (long) P) * b[i][j], (long) P);
                }
            }
            return r;
        }

        /** x * a; what does not fit falls off, so the caller asks for the degree first. */
        private static int[][] xTimes(int[][] a) {
            int[][] r = new int[13][13];
            for (int i = 0; i + 1 < 13; i++) {
                r[i + 1] = a[i].clone();
            }
            return r;
        }

        /** d * a, by d x^i = x^i d + i x^(i-1). */
        private static int[][] dTimes(int[][] a) {
            int[][] r = new int[13][13];
            for (int i = 0; i < 13; i++) {
                for (int j = 0; j < 13; j++) {
                    if (a[i][j] != 0) {
                        if (j + 1 < 13) {
                            r[i][j + 1] = (r[i][j + 1] + a[i][j]) % P;
                        }
                        if (i > 0) {
                            r[i - 1][j] = (r[i - 1][j] + i * a[i][j]) % P;
                        }
                    }
                }
            }
            return r;
        }

        private static int[][] product(int[][] a, int[][] b) {
            int[][] r = new int[13][13];
            int[][] db = b;
            for (int j = 0; j < 13; j++) {
                int[][] xdb = db;
                for (int i = 0; i + j < 13; i++) {
                    if (a[i][j] != 0) {
                        r = plus(r, 1, xdb, a[i][j]);
                    }
                    xdb = xTimes(xdb);
                }
                db = dTimes(db);
            }
            return r;
        }

        private static int[][] word(int i, int j, int c) {
            int[][] r = new int[13][13];
            r[i][j] = Math.floorMod(c, P);
            return r;
        }

        private static boolean tooGreat(int[][] a, int[][] b) {
            return degree(a) >= 0 && degree(b) >= 0 && degree(a) + degree(b) > 12;
        }

        private int put(int s, int[][] r) {
            store();
            op[s] = copy(r);
            return terms(r);
        }

        int sets(int s, int i, int j, int c) {
            if (noOp(s) || noWord(i, j)) {
                return error(BAD);
            }
            store();
            int old = op[s][i][j];
            op[s][i][j] = Math.floorMod(c, P);
            return sign(old);
        }

        int at(int s, int i, int j) {
            return noOp(s) || noWord(i, j) ? error(BAD) : sign(op[s][i][j]);
        }

        int sums(int s, int t, int a, int u, int b) {
            return noOp(s) || noOp(t) || noOp(u) ? error(BAD) : put(s, plus(op[t], a, op[u], b));
        }

        int times(int s, int t, int u) {
            if (noOp(s) || noOp(t) || noOp(u)) {
                return error(BAD);
            }
            return tooGreat(op[t], op[u]) ? error(FULL) : put(s, product(op[t], op[u]));
        }

        int bracket(int s, int t, int u) {
            if (noOp(s) || noOp(t) || noOp(u)) {
                return error(BAD);
            }
            return tooGreat(op[t], op[u]) ? error(FULL) : put(s, plus(product(op[t], op[u]), 1, product(op[u], op[t]), -1));
        }

        private static int[][] raised(int[][] a, int n) {
            int[][] r = word(0, 0, 1);
            for (int k = 0; k < n; k++) {
                r = product(r, a);
            }
            return r;
        }

        int power(int s, int t, int n) {
            if (noOp(s) || noOp(t) || n < 0 || n > 12) {
                return error(BAD);
            }
            return degree(op[t]) >= 0 && n * degree(op[t]) > 12 ? error(FULL) : put(s, raised(op[t], n));
        }

        int reversed(int s, int t) {
            if (noOp(s) || noOp(t)) {
                return error(BAD);
            }
            int[][] r = new int[13][13];
            for (int i = 0; i < 13; i++) {
                for (int j = 0; i + j < 13; j++) {
                    int c = op[t][i][j];
                    r = plus(r, 1, product(word(0, j, j % 2 == 0 ? 1 : -1), word(i, 0, c)), 1);
                }
            }
            return put(s, r);
        }

        /** The words of the terms in descending order. */
        private static List<int[]> descending(int[][] a, int order) {
            List<int[]> words = new ArrayList<>();
            for (int i = 0; i < 13; i++) {
                for (int j = 0; j < 13; j++) {
                    if (a[i][j] != 0) {
                        words.add(new int[] {i, j});
                    }
                }
            }
            words.sort((v, w) -> compare(w, v, order));
            return words;
        }

        private static int compare(int[] v, int[] w, int order) {
            int n = Integer.compare(v[0] + v[1], w[0] + w[1]);
            return n != 0 ? n : order == 0 ? Integer.compare(v[1], w[1]) : Integer.compare(v[0], w[0]);
        }

        int of(int s, int what) {
            if (noOp(s) || what < 0 || what > 8) {
                return error(BAD);
            }
            List<int[]> words = descending(op[s], order);
            if (what == 0) {
                return words.size();
            }
            if (words.isEmpty()) {
                return what == 8 ? 0 : NONE;
            }
            int[] lead = words.get(0);
            switch (what) {
                case 1: return words.stream().mapToInt(w -> w[0] + w[1]).max().getAsInt();
                case 2: return words.stream().mapToInt(w -> w[0]).max().getAsInt();
                case 3: return words.stream().mapToInt(w -> w[1]).max().getAsInt();
                case 4: return words.stream().mapToInt(w -> w[1] - w[0]).max().getAsInt();
                case 5: return words.stream().mapToInt(w -> w[1] - w[0]).min().getAsInt();
                case 6: return lead[0];
                case 7: return lead[1];
                default: return sign(op[s][lead[0]][lead[1]]);
            }
        }

        int order(int o) {
            if (o < 0 || o > 1) {
                return error(BAD);
            }
            store();
            int old = order;
            order = o;
            return old;
        }

        private static boolean noPol(int f, int n) {
            return f < 0 || f > 1 || n < 0 || n > 30;
        }

        int puts(int f, int n, int c) {
            if (noPol(f, n)) {
                return error(BAD);
            }
            store();
            int old = pol[f][n];
            pol[f][n] = Math.floorMod(c, P);
            return sign(old);
        }

        int rate(int f, int n) {
            return noPol(f, n) ? error(BAD) : sign(pol[f][n]);
        }

        private static int[] derived(int[] f) {
            int[] r = new int[f.length];
            for (int n = 1; n < f.length; n++) {
                r[n - 1] = f[n] * n % P;
            }
            return r;
        }

        /** What an operator makes of f, in a row that is long enough for everything. */
        private static int[] image(int[][] a, int[] f, boolean[] over) {
            int[] r = new int[60];
            int[] g = f;
            for (int j = 0; j < 13; j++) {
                for (int i = 0; i < 13; i++) {
                    for (int n = 0; n < g.length && a[i][j] != 0; n++) {
                        if (g[n] != 0) {
                            r[n + i] = (r[n + i] + a[i][j] * g[n]) % P;
                            over[0] |= n + i > 30;
                        }
                    }
                }
                g = derived(g);
            }
            return r;
        }

        private static int top(int[] f) {
            int n = f.length - 1;
            while (n >= 0 && f[n] == 0) {
                n--;
            }
            return n;
        }

        int makes(int g, int s, int f) {
            if (noPol(g, 0) || noPol(f, 0) || noOp(s)) {
                return error(BAD);
            }
            boolean[] over = {false};
            int[] r = image(op[s], pol[f], over);
            if (over[0]) {
                return error(FULL);
            }
            store();
            pol[g] = java.util.Arrays.copyOf(r, 31);
            return top(r) < 0 ? NONE : top(r);
        }

        int kernel(int s, int n) {
            if (noOp(s) || n < 0 || n > 15) {
                return error(BAD);
            }
            Space space = new Space(60);
            for (int k = 0; k <= n; k++) {
                int[] f = new int[31];
                f[k] = 1;
                space.add(image(op[s], f, new boolean[1]));
            }
            return n + 1 - space.rows.size();
        }

        int kills(int s, int f) {
            if (noOp(s) || noPol(f, 0)) {
                return error(BAD);
            }
            if (top(pol[f]) < 0) {
                return error(NO);
            }
            if (top(pol[f]) > 11) {
                return error(FULL);
            }
            int[][] a = new int[13][13];
            int[][] b = new int[13][13];
            int[] d = derived(pol[f]);
            for (int n = 0; n < 12; n++) {
                a[n][0] = pol[f][n];
                b[n][0] = d[n];
            }
            return put(s, plus(product(a, word(0, 1, 1)), 1, b, -1));
        }

        private static int inverse(int a) {
            return java.math.BigInteger.valueOf(a).modInverse(java.math.BigInteger.valueOf(P)).intValue();
        }

        private static boolean noSet(int set) {
            return set == 0 || (set & ~63) != 0;
        }

        int rest(int s, int t, int set) {
            if (noOp(s) || noOp(t) || noSet(set)) {
                return error(BAD);
            }
            for (int k = 0; k < 6; k++) {
                if ((set >> k & 1) == 1 && degree(op[k]) < 0) {
                    return error(NO);
                }
            }
            int[][] a = copy(op[t]);
            int[][] r = new int[13][13];
            while (degree(a) >= 0) {
                int[] w = descending(a, order).get(0);
                boolean divided = false;
                for (int k = 0; k < 6 && !divided; k++) {
                    if ((set >> k & 1) == 1) {
                        int[] e = descending(op[k], order).get(0);
                        if (e[0] <= w[0] && e[1] <= w[1]) {
                            int c = (int) ((long) a[w[0]][w[1]] * inverse(op[k][e[0]][e[1]]) % P);
                            a = plus(a, 1, product(word(w[0] - e[0], w[1] - e[1], c), op[k]), -1);
                            divided = true;
                        }
                    }
                }
                if (!divided) {
                    r[w[0]][w[1]] = a[w[0]][w[1]];
                    a[w[0]][w[1]] = 0;
                }
            }
            return put(s, r);
        }

        /** Columns: the words of degree up to n in descending order. */
        private List<int[]> words(int n) {
            List<int[]> words = new ArrayList<>();
            for (int i = 0; i <= n; i++) {
                for (int j = 0; i + j <= n; j++) {
                    words.add(new int[] {i, j});
                }
            }
            words.sort((v, w) -> compare(w, v, order));
            return words;
        }

        private static int[] flat(int[][] a, List<int[]> words) {
            int[] r = new int[words.size()];
            for (int k = 0; k < r.length; k++) {
                r[k] = a[words.get(k)[0]][words.get(k)[1]];
            }
            return r;
        }

        private static int[][] square(int[] row, List<int[]> words) {
            int[][] r = new int[13][13];
            for (int k = 0; k < row.length; k++) {
                r[words.get(k)[0]][words.get(k)[1]] = row[k];
            }
            return r;
        }

        /** All of the ideal up to a degree: closed under x and d as long as the degree allows it. */
        private Space ideal(int set, int n) {
            List<int[]> words = words(n);
            Space space = new Space(words.size());
            List<int[][]> fresh = new ArrayList<>();
            for (int k = 0; k < 6; k++) {
                if ((set >> k & 1) == 1) {
                    fresh.add(op[k]);
                }
            }
            while (!fresh.isEmpty()) {
                int[] row = space.add(flat(fresh.remove(fresh.size() - 1), words));
                if (row != null) {
                    int[][] a = square(row, words);
                    if (degree(a) < n) {
                        fresh.add(xTimes(a));
                        fresh.add(dTimes(a));
                    }
                }
            }
            return space;
        }

        private boolean noBasis(int set) {
            for (int k = 0; k < 6; k++) {
                if ((set >> k & 1) == 1 && degree(op[k]) > 3) {
                    return true;
                }
            }
            return false;
        }

        /** The reduced basis, each with its lead as the last entry of the list's rows. */
        private List<int[][]> reducedBasis(int set) {
            List<int[]> words = words(9);
            Space space = ideal(set, 9);
            space.tidy();
            List<int[][]> basis = new ArrayList<>();
            List<int[]> leads = new ArrayList<>();
            for (int k = space.rows.size() - 1; k >= 0; k--) {
                int[] w = words.get(space.pivots.get(k));
                boolean covered = false;
                for (int[] v : leads) {
                    covered |= v[0] <= w[0] && v[1] <= w[1];
                }
                if (!covered) {
                    leads.add(w);
                    basis.add(square(space.rows.get(k), words));
                }
            }
            return basis;
        }

        int basis(int set) {
            if (noSet(set)) {
                return error(BAD);
            }
            return noBasis(set) ? error(NO) : reducedBasis(set).size();
        }

        int based(int set, int k, int i, int j) {
            if (noSet(set) || k < 0 || i < 0 || i > 15 || j < 0 || j > 15) {
                return error(BAD);
            }
            if (noBasis(set)) {
                return error(NO);
            }
            List<int[][]> basis = reducedBasis(set);
            return k < basis.size() && i < 13 && j < 13 ? sign(basis.get(k)[i][j]) : 0;
        }

        int stairs(int set, int n) {
            if (noSet(set) || n < 0 || n > 20) {
                return error(BAD);
            }
            if (noBasis(set)) {
                return error(NO);
            }
            int count = 0;
            List<int[][]> basis = reducedBasis(set);
            for (int j = 0; j <= n; j++) {
                boolean covered = false;
                for (int[][] a : basis) {
                    int[] w = descending(a, order).get(0);
                    covered |= w[0] <= n - j && w[1] <= j;
                }
                count += covered ? 0 : 1;
            }
            return count;
        }

        int within(int t, int set) {
            if (noOp(t) || noSet(set)) {
                return error(BAD);
            }
            if (noBasis(set)) {
                return error(NO);
            }
            return ideal(set, 12).add(flat(op[t], words(12))) == null ? 1 : 0;
        }

        int type(int c) {
            if (c < 0 || c > 127) {
                return error(BAD);
            }
            if (text.length() == 120) {
                return error(FULL);
            }
            text += (char) c;
            return text.length();
        }

        int clear() {
            int n = text.length();
            text = "";
            return n;
        }

        int reads(int s) {
            if (noOp(s)) {
                return error(BAD);
            }
            Descent d = new Descent(text);
            try {
                int[][] r = d.all();
                return d.over ? error(FULL) : put(s, r);
            } catch (Fault f) {
                return -30000 - f.position;
            }
        }

        private String textOf(int s) {
            StringBuilder b = new StringBuilder();
            for (int[] w : descending(op[s], order)) {
                int c = sign(op[s][w[0]][w[1]]);
                b.append(c < 0 ? "-" : b.length() == 0 ? "" : "+");
                List<String> parts = new ArrayList<>();
                if (Math.abs(c) != 1 || w[0] + w[1] == 0) {
                    parts.add("" + Math.abs(c));
                }
                if (w[0] > 0) {
                    parts.add(w[0] == 1 ? "x" : "x^" + w[0]);
                }
                if (w[1] > 0) {
                    parts.add(w[1] == 1 ? "d" : "d^" + w[1]);
                }
                b.append(String.join("*", parts));
            }
            return b.length() == 0 ? "0" : b.toString();
        }

        int shown(int s, int i) {
            if (noOp(s) || i < 0) {
                return error(BAD);
            }
            String t = textOf(s);
            return i < t.length() ? t.charAt(i) : NONE;
        }

        int told(int what) {
            if (what < 0 || what > 5) {
                return error(BAD);
            }
            return what < 3 ? counts[what] : what == 3 ? text.length() : what == 4 ? order : states.size();
        }

        long digest() {
            List<Long> numbers = new ArrayList<>();
            for (int k = 0; k < 6; k++) {
                numbers.add((long) told(k));
            }
            for (int s = 0; s < 6; s++) {
                for (int k = 0; k < 9; k++) {
                    numbers.add((long) of(s, k));
                }
                for (int n = 0; n <= 12; n++) {
                    for (int j = 0; j <= n; j++) {
                        numbers.add((long) at(s, n - j, j));
                    }
                }
            }
            for (int f = 0; f < 2; f++) {
                for (int n = 0; n <= 30; n++) {
                    numbers.add((long) rate(f, n));
                }
            }
            long h = 2339;
            for (long v : numbers) {
                h = 31 * h + v;
            }
            return h;
        }
    }

    /** A space of rows, each with its first entry other than 0 in a column of its own, by ascending column. */
    private static final class Space {
        final int width;
        final List<int[]> rows = new ArrayList<>();
        final List<Integer> pivots = new ArrayList<>();

        Space(int width) {
            this.width = width;
        }

        /** Adds a row; answers what is new of it, or null. */
        int[] add(int[] given) {
            int[] row = given.clone();
            int place = 0;
            for (int c = 0; c < width; c++) {
                if (place < rows.size() && pivots.get(place) == c) {
                    subtract(row, row[c], rows.get(place));
                    place++;
                } else if (row[c] != 0) {
                    int inverse = Model.inverse(row[c]);
                    for (int k = 0; k < width; k++) {
                        row[k] = (int) ((long) row[k] * inverse % P);
                    }
                    for (int m = place; m < rows.size(); m++) {
                        subtract(row, row[pivots.get(m)], rows.get(m));
                    }
                    rows.add(place, row);
                    pivots.add(place, c);
                    return row;
                }
            }
            return null;
        }

        private void subtract(int[] row, int factor, int[] other) {
            if (factor != 0) {
                for (int k = 0; k < width; k++) {
                    row[k] = Math.floorMod(row[k] - factor * other[k], P);
                }
            }
        }

        /** Empties the pivots' columns above them, too. */
        void tidy() {
            for (int k = rows.size() - 1; k >= 0; k--) {
                for (int m = 0; m < k; m++) {
                    subtract(rows.get(m), rows.get(m)[pivots.get(k)], rows.get(k));
                }
            }
        }
    }

    private static final class Fault extends Exception {
        private static final long serialVersionUID = 1L;
        final int position;

        Fault(int position) {
            this.position = position;
        }
    }

    /** Reads and computes at once; that a product is too great is only remembered, as a fault goes first. */
    private static final class Descent {
        final String text;
        int at = 0;
        int open = 0;
        boolean over = false;

        Descent(String text) {
            this.text = text;
        }

        int[][] all() throws Fault {
            int[][] r = expression();
            if (look() != 0) {
                throw new Fault(at);
            }
            return r;
        }

        /** The next sign, 0 at the end; a byte 0 in the text counts as one that stands nowhere. */
        private int look() {
            while (at < text.length() && text.charAt(at) == ' ') {
                at++;
            }
            return at == text.length() ? 0 : text.charAt(at) == 0 ? '?' : text.charAt(at);
        }

        private int[][] expression() throws Fault {
            int sign = 1;
            if (look() == '-') {
                at++;
                sign = -1;
            }
            int[][] r = new int[13][13];
            while (true) {
                r = Model.plus(r, 1, term(), sign);
                int c = look();
                if (c != '+' && c != '-') {
                    return r;
                }
                sign = c == '+' ? 1 : -1;
                at++;
            }
        }

        private int[][] term() throws Fault {
            int[][] r = factor();
            while (look() == '*') {
                at++;
                int[][] f = factor();
                over |= Model.tooGreat(r, f);
                r = over ? new int[13][13] : Model.product(r, f);
            }
            return r;
        }

        private String digits(int most) throws Fault {
            look();
            StringBuilder b = new StringBuilder();
            while (at < text.length() && Character.isDigit(text.charAt(at))) {
                if (b.length() == most) {
                    throw new Fault(at);
                }
                b.append(text.charAt(at));
                at++;
            }
            if (b.length() == 0) {
                throw new Fault(at);
            }
            return b.toString();
        }

        private int[][] factor() throws Fault {
            int c = look();
            int[][] r;
            if (c == '(') {
                if (open == 8) {
                    throw new Fault(at);
                }
                open++;
                at++;
                r = expression();
                if (look() != ')') {
                    throw new Fault(at);
                }
                at++;
                open--;
            } else if (c == 'x' || c == 'd') {
                at++;
                r = Model.word(c == 'x' ? 1 : 0, c == 'd' ? 1 : 0, 1);
            } else {
                r = Model.word(0, 0, Integer.parseInt(digits(4)));
            }
            if (look() == '^') {
                at++;
                look();
                int first = at;
                int n = Integer.parseInt(digits(2));
                if (n > 12) {
                    throw new Fault(first);
                }
                over |= Model.degree(r) >= 0 && n * Model.degree(r) > 12;
                r = over ? new int[13][13] : Model.raised(r, n);
            }
            return r;
        }
    }
}
