import java.util.Arrays;

/**
 * Computations in the Weyl algebra over the integers modulo 10007. The promises stand in ../shared/DOC.md.
 *
 * Inside, a number is a residue from 0 to 10006; it becomes one from -5003 to 5003 only where it is answered.
 * Every row that a call needs is made once, with the object, so that no call makes an object.
 */
public final class WeylWords {
    public static final int NONE = -20001, BAD = -20002, NO = -20003, FULL = -20004;

    private static final int PRIME = 10007;
    private static final int OPERATORS = 6;
    private static final int POLYNOMIALS = 2;
    private static final int TOP_DEGREE = 12;
    private static final int WORDS = 91;
    private static final int TOP_POWER = 30;
    private static final int TOP_EXPONENT = 12;
    private static final int TOP_KERNEL_POWER = 15;
    private static final int TOP_BASED_EXPONENT = 15;
    private static final int TOP_STAIRS_DEGREE = 20;
    private static final int TOP_KILLS_POWER = 11;
    private static final int SET_DEGREE = 3;
    private static final int SET_WORDS = 10;
    private static final int KEPT_STATES = 5;
    private static final int TEXT_BYTES = 120;
    private static final int OPEN_PARENTHESES = 8;
    private static final int FAULT_BASE = -30000;

    private final State state = new State();
    private final History history = new History();
    private final Text text = new Text();
    private final Algebra algebra = new Algebra();
    private final Divider divider = new Divider(algebra);
    private final Completion completion = new Completion(algebra, divider);
    private final Action action = new Action(algebra);
    private final Reader reader = new Reader(algebra, text);
    private final Writer writer = new Writer();
    private final Operator result = new Operator();
    private int badCount = 0;
    private int noCount = 0;
    private int fullCount = 0;

    public WeylWords() {
    }

    // ---- operators

    public int sets(int s, int i, int j, int c) {
        if (!isOperator(s) || !Operator.isWord(i, j)) {
            return bad();
        }
        history.keep(state);
        Operator operator = state.operators[s];
        int before = operator.coefficient(i, j);
        operator.setCoefficient(i, j, Algebra.residue(c));
        return Algebra.balanced(before);
    }

    public int at(int s, int i, int j) {
        if (!isOperator(s) || !Operator.isWord(i, j)) {
            return bad();
        }
        return Algebra.balanced(state.operators[s].coefficient(i, j));
    }

    public int sums(int s, int t, int a, int u, int b) {
        if (!isOperator(s) || !isOperator(t) || !isOperator(u)) {
            return bad();
        }
        result.makeZero();
        result.addMultiple(state.operators[t], Algebra.residue(a));
        result.addMultiple(state.operators[u], Algebra.residue(b));
        return replaceOperator(s);
    }

    public int times(int s, int t, int u) {
        if (!isOperator(s) || !isOperator(t) || !isOperator(u)) {
            return bad();
        }
        Operator left = state.operators[t];
        Operator right = state.operators[u];
        if (!Algebra.productFits(left, right)) {
            return full();
        }
        result.makeZero();
        algebra.addProduct(result, 1, left, right);
        return replaceOperator(s);
    }

    public int bracket(int s, int t, int u) {
        if (!isOperator(s) || !isOperator(t) || !isOperator(u)) {
            return bad();
        }
        Operator left = state.operators[t];
        Operator right = state.operators[u];
        if (!Algebra.productFits(left, right)) {
            return full();
        }
        result.makeZero();
        algebra.addProduct(result, 1, left, right);
        algebra.addProduct(result, PRIME - 1, right, left);
        return replaceOperator(s);
    }

    public int power(int s, int t, int n) {
        if (!isOperator(s) || !isOperator(t) || n < 0 || n > TOP_EXPONENT) {
            return bad();
        }
        Operator base = state.operators[t];
        if (!Algebra.powerFits(base, n)) {
            return full();
        }
        algebra.raise(result, base, n);
        return replaceOperator(s);
    }

    public int reversed(int s, int t) {
        if (!isOperator(s) || !isOperator(t)) {
            return bad();
        }
        algebra.adjoin(result, state.operators[t]);
        return replaceOperator(s);
    }

    public int of(int s, int what) {
        if (!isOperator(s) || what < 0 || what > 8) {
            return bad();
        }
        return state.operators[s].property(what, state.order);
    }

    public int order(int o) {
        if (o != 0 && o != 1) {
            return bad();
        }
        history.keep(state);
        int before = state.order;
        state.order = o;
        return before;
    }

    // ---- polynomials

    public int puts(int f, int n, int c) {
        if (!isPolynomial(f) || !isPower(n)) {
            return bad();
        }
        history.keep(state);
        int before = state.polynomials[f][n];
        state.polynomials[f][n] = Algebra.residue(c);
        return Algebra.balanced(before);
    }

    public int rate(int f, int n) {
        if (!isPolynomial(f) || !isPower(n)) {
            return bad();
        }
        return Algebra.balanced(state.polynomials[f][n]);
    }

    public int makes(int g, int s, int f) {
        if (!isPolynomial(g) || !isOperator(s) || !isPolynomial(f)) {
            return bad();
        }
        Operator operator = state.operators[s];
        int[] polynomial = state.polynomials[f];
        if (!action.fits(operator, polynomial)) {
            return full();
        }
        action.apply(operator, polynomial);
        history.keep(state);
        System.arraycopy(action.image, 0, state.polynomials[g], 0, TOP_POWER + 1);
        int degree = Action.degree(action.image);
        return degree < 0 ? NONE : degree;
    }

    public int kernel(int s, int n) {
        if (!isOperator(s) || n < 0 || n > TOP_KERNEL_POWER) {
            return bad();
        }
        return action.kernelDimension(state.operators[s], n);
    }

    public int kills(int s, int f) {
        if (!isOperator(s) || !isPolynomial(f)) {
            return bad();
        }
        int[] polynomial = state.polynomials[f];
        int degree = Action.degree(polynomial);
        if (degree < 0) {
            return no();
        }
        if (degree > TOP_KILLS_POWER) {
            return full();
        }
        result.makeZero();
        for (int n = 0; n <= TOP_KILLS_POWER; n++) {
            result.setCoefficient(n, 1, polynomial[n]);
            if (n > 0) {
                result.setCoefficient(n - 1, 0, Algebra.residue(-n * polynomial[n]));
            }
        }
        return replaceOperator(s);
    }

    // ---- rests and bases

    public int rest(int s, int t, int set) {
        if (!isOperator(s) || !isOperator(t) || !isSet(set)) {
            return bad();
        }
        for (int k = 0; k < OPERATORS; k++) {
            if (isInSet(set, k) && state.operators[k].isZero()) {
                return no();
            }
        }
        divider.begin(state.order);
        for (int k = 0; k < OPERATORS; k++) {
            if (isInSet(set, k)) {
                divider.take(state.operators[k]);
            }
        }
        result.copyFrom(state.operators[t]);
        divider.reduce(result);
        return replaceOperator(s);
    }

    public int basis(int set) {
        if (!isSet(set)) {
            return bad();
        }
        if (!hasBasis(set)) {
            return no();
        }
        return completion.find(state, set).count;
    }

    public int based(int set, int k, int i, int j) {
        boolean isWord = i >= 0 && i <= TOP_BASED_EXPONENT && j >= 0 && j <= TOP_BASED_EXPONENT;
        if (!isSet(set) || k < 0 || !isWord) {
            return bad();
        }
        if (!hasBasis(set)) {
            return no();
        }
        Basis found = completion.find(state, set);
        return k < found.count ? Algebra.balanced(found.parts[k].coefficient(i, j)) : 0;
    }

    public int stairs(int set, int n) {
        if (!isSet(set) || n < 0 || n > TOP_STAIRS_DEGREE) {
            return bad();
        }
        if (!hasBasis(set)) {
            return no();
        }
        Basis found = completion.find(state, set);
        int count = 0;
        for (int j = 0; j <= n; j++) {
            if (!found.covers(n - j, j)) {
                count++;
            }
        }
        return count;
    }

    public int within(int t, int set) {
        if (!isOperator(t) || !isSet(set)) {
            return bad();
        }
        if (!hasBasis(set)) {
            return no();
        }
        Basis found = completion.find(state, set);
        divider.begin(state.order);
        for (int k = 0; k < found.count; k++) {
            divider.take(found.parts[k]);
        }
        result.copyFrom(state.operators[t]);
        divider.reduce(result);
        return result.isZero() ? 1 : 0;
    }

    // ---- texts

    public int type(int c) {
        if (c < 0 || c > 127) {
            return bad();
        }
        if (text.length >= TEXT_BYTES) {
            return full();
        }
        text.append(c);
        return text.length;
    }

    public int clear() {
        int before = text.length;
        text.length = 0;
        return before;
    }

    public int reads(int s) {
        if (!isOperator(s)) {
            return bad();
        }
        int fault = text.fault();
        if (fault >= 0) {
            return FAULT_BASE - fault;
        }
        if (!reader.evaluate(result)) {
            return full();
        }
        return replaceOperator(s);
    }

    public int shown(int s, int i) {
        if (!isOperator(s) || i < 0) {
            return bad();
        }
        return writer.byteAt(state.operators[s], state.order, i);
    }

    // ---- states

    public int back() {
        if (history.stored == 0) {
            return no();
        }
        history.restore(state);
        return history.stored;
    }

    public int told(int what) {
        switch (what) {
            case 0:
                return badCount;
            case 1:
                return noCount;
            case 2:
                return fullCount;
            case 3:
                return text.length;
            case 4:
                return state.order;
            case 5:
                return history.stored;
            default:
                return bad();
        }
    }

    public long digest() {
        long h = 2339L;
        for (int what = 0; what <= 5; what++) {
            h = 31L * h + told(what);
        }
        for (int s = 0; s < OPERATORS; s++) {
            Operator operator = state.operators[s];
            for (int what = 0; what <= 8; what++) {
                h = 31L * h + operator.property(what, state.order);
            }
            h = mixed(h, operator.cells);
        }
        for (int f = 0; f < POLYNOMIALS; f++) {
            h = mixed(h, state.polynomials[f]);
        }
        return h;
    }

    private static long mixed(long start, int[] residues) {
        long h = start;
        for (int residue : residues) {
            h = 31L * h + Algebra.balanced(residue);
        }
        return h;
    }

    private int replaceOperator(int s) {
        history.keep(state);
        state.operators[s].copyFrom(result);
        return result.countTerms();
    }

    private int bad() {
        badCount++;
        return BAD;
    }

    private int no() {
        noCount++;
        return NO;
    }

    private int full() {
        fullCount++;
        return FULL;
    }

    private boolean hasBasis(int set) {
        for (int k = 0; k < OPERATORS; k++) {
            if (isInSet(set, k) && state.operators[k].degree() > SET_DEGREE) {
                return false;
            }
        }
        return true;
    }

    private static boolean isOperator(int s) {
        return s >= 0 && s < OPERATORS;
    }

    private static boolean isPolynomial(int f) {
        return f >= 0 && f < POLYNOMIALS;
    }

    private static boolean isPower(int n) {
        return n >= 0 && n <= TOP_POWER;
    }

    private static boolean isSet(int set) {
        return set > 0 && set < (1 << OPERATORS);
    }

    private static boolean isInSet(int set, int k) {
        return ((set >> k) & 1) == 1;
    }

    /**
     * An operator in normal form. The word (i, j) has its cell at a place that counts the words by ascending
     * degree, and within a degree by ascending j: the sequence in which digest() wants them.
     */
    private static final class Operator {
        /** The exponents of x and d by place, a line for each degree. */
        static final int[] X_AT = {
            0,
            1, 0,
            2, 1, 0,
            3, 2, 1, 0,
            4, 3, 2, 1, 0,
            5, 4, 3, 2, 1, 0,
            6, 5, 4, 3, 2, 1, 0,
            7, 6, 5, 4, 3, 2, 1, 0,
            8, 7, 6, 5, 4, 3, 2, 1, 0,
            9, 8, 7, 6, 5, 4, 3, 2, 1, 0,
            10, 9, 8, 7, 6, 5, 4, 3, 2, 1, 0,
            11, 10, 9, 8, 7, 6, 5, 4, 3, 2, 1, 0,
            12, 11, 10, 9, 8, 7, 6, 5, 4, 3, 2, 1, 0
        };
        static final int[] D_AT = {
            0,
            0, 1,
            0, 1, 2,
            0, 1, 2, 3,
            0, 1, 2, 3, 4,
            0, 1, 2, 3, 4, 5,
            0, 1, 2, 3, 4, 5, 6,
            0, 1, 2, 3, 4, 5, 6, 7,
            0, 1, 2, 3, 4, 5, 6, 7, 8,
            0, 1, 2, 3, 4, 5, 6, 7, 8, 9,
            0, 1, 2, 3, 4, 5, 6, 7, 8, 9, 10,
            0, 1, 2, 3, 4, 5, 6, 7, 8, 9, 10, 11,
            0, 1, 2, 3, 4, 5, 6, 7, 8, 9, 10, 11, 12
        };

        final int[] cells = new int[WORDS];

        static boolean isWord(int i, int j) {
            // each one is bounded by itself, too, as the sum of two great ints wraps
            return i >= 0 && j >= 0 && i <= TOP_DEGREE && j <= TOP_DEGREE && i + j <= TOP_DEGREE;
        }

        static int firstPlace(int degree) {
            return degree * (degree + 1) / 2;
        }

        static int placeOf(int i, int j) {
            return firstPlace(i + j) + j;
        }

        static int degreeAt(int place) {
            return X_AT[place] + D_AT[place];
        }

        /** The place of a word by its rank in its degree; rank 0 is the greatest word of the degree. */
        static int rankedPlace(int order, int degree, int rank) {
            return firstPlace(degree) + (order == 0 ? degree - rank : rank);
        }

        /** A number that grows with the word at a place, for comparing words. */
        static int height(int order, int place) {
            return firstPlace(degreeAt(place)) + (order == 0 ? D_AT[place] : X_AT[place]);
        }

        int coefficient(int i, int j) {
            return isWord(i, j) ? cells[placeOf(i, j)] : 0;
        }

        void setCoefficient(int i, int j, int residue) {
            if (isWord(i, j)) {
                cells[placeOf(i, j)] = residue;
            }
        }

        void makeZero() {
            Arrays.fill(cells, 0);
        }

        void makeNumber(int residue) {
            makeZero();
            cells[0] = residue;
        }

        void copyFrom(Operator other) {
            System.arraycopy(other.cells, 0, cells, 0, WORDS);
        }

        void addMultiple(Operator other, int factor) {
            for (int place = 0; place < WORDS; place++) {
                cells[place] = (cells[place] + factor * other.cells[place]) % PRIME;
            }
        }

        void scale(int factor) {
            for (int place = 0; place < WORDS; place++) {
                cells[place] = cells[place] * factor % PRIME;
            }
        }

        int countTerms() {
            int count = 0;
            for (int cell : cells) {
                if (cell != 0) {
                    count++;
                }
            }
            return count;
        }

        /** The number of places up to the last term; no place from there on needs to be looked at. */
        int extent() {
            for (int place = WORDS - 1; place >= 0; place--) {
                if (cells[place] != 0) {
                    return place + 1;
                }
            }
            return 0;
        }

        boolean isZero() {
            return extent() == 0;
        }

        /** The degree, or -1 for the operator 0. */
        int degree() {
            int extent = extent();
            return extent == 0 ? -1 : degreeAt(extent - 1);
        }

        /** The place of the lead, or -1 for the operator 0. */
        int leadPlace(int order) {
            int degree = degree();
            for (int rank = 0; rank <= degree; rank++) {
                int place = rankedPlace(order, degree, rank);
                if (cells[place] != 0) {
                    return place;
                }
            }
            return -1;
        }

        /** What of() answers. */
        int property(int what, int order) {
            if (what == 0) {
                return countTerms();
            }
            int lead = leadPlace(order);
            if (lead < 0) {
                return what == 8 ? 0 : NONE;
            }
            switch (what) {
                case 1:
                    return degreeAt(lead);
                case 6:
                    return X_AT[lead];
                case 7:
                    return D_AT[lead];
                case 8:
                    return Algebra.balanced(cells[lead]);
                default:
                    return what == 5 ? -greatest(5) : greatest(what);
            }
        }

        /** The greatest i (2), j (3), j - i (4) or i - j (5) of the terms. */
        private int greatest(int what) {
            int best = -TOP_DEGREE;
            for (int degree = 0; degree <= TOP_DEGREE; degree++) {
                for (int j = 0; j <= degree; j++) {
                    if (cells[firstPlace(degree) + j] != 0) {
                        best = Math.max(best, measure(what, degree - j, j));
                    }
                }
            }
            return best;
        }

        private static int measure(int what, int i, int j) {
            switch (what) {
                case 2:
                    return i;
                case 3:
                    return j;
                case 4:
                    return j - i;
                default:
                    return i - j;
            }
        }
    }

    /** All that back() brings back. */
    private static final class State {
        final Operator[] operators = new Operator[OPERATORS];
        final int[][] polynomials = new int[POLYNOMIALS][TOP_POWER + 1];
        int order = 0;

        State() {
            for (int s = 0; s < OPERATORS; s++) {
                operators[s] = new Operator();
            }
        }

        void copyFrom(State other) {
            for (int s = 0; s < OPERATORS; s++) {
                operators[s].copyFrom(other.operators[s]);
            }
            for (int f = 0; f < POLYNOMIALS; f++) {
                System.arraycopy(other.polynomials[f], 0, polynomials[f], 0, TOP_POWER + 1);
            }
            order = other.order;
        }
    }

    /** The last stored states, in a ring of slots. */
    private static final class History {
        private final State[] slots = new State[KEPT_STATES];
        private int next = 0;
        int stored = 0;

        History() {
            for (int k = 0; k < KEPT_STATES; k++) {
                slots[k] = new State();
            }
        }

        void keep(State state) {
            slots[next].copyFrom(state);
            next = (next + 1) % KEPT_STATES;
            stored = Math.min(stored + 1, KEPT_STATES);
        }

        void restore(State state) {
            if (stored > 0) {
                next = (next + KEPT_STATES - 1) % KEPT_STATES;
                stored--;
                state.copyFrom(slots[next]);
            }
        }
    }

    /** Numbers modulo the prime, and products of operators. */
    private static final class Algebra {
        private final int[][] choose = new int[TOP_DEGREE + 1][TOP_DEGREE + 1];
        /** falling[n][k] is n (n - 1) ... (n - k + 1); the powers of polynomials need it up to 30. */
        final int[][] falling = new int[TOP_POWER + 1][TOP_DEGREE + 1];
        private final Operator spare = new Operator();

        Algebra() {
            for (int n = 0; n <= TOP_DEGREE; n++) {
                choose[n][0] = 1;
                for (int k = 1; k <= n; k++) {
                    choose[n][k] = (choose[n - 1][k - 1] + choose[n - 1][k]) % PRIME;
                }
            }
            for (int n = 0; n <= TOP_POWER; n++) {
                falling[n][0] = 1;
                for (int k = 1; k <= Math.min(n, TOP_DEGREE); k++) {
                    falling[n][k] = falling[n][k - 1] * (n - k + 1) % PRIME;
                }
            }
        }

        static int residue(int number) {
            return Math.floorMod(number, PRIME);
        }

        static int balanced(int residue) {
            return residue > PRIME / 2 ? residue - PRIME : residue;
        }

        /** The inverse of a residue other than 0, as its power PRIME - 2. */
        static int inverse(int residue) {
            int power = 1;
            int square = residue;
            for (int exponent = PRIME - 2; exponent > 0; exponent >>= 1) {
                if ((exponent & 1) == 1) {
                    power = power * square % PRIME;
                }
                square = square * square % PRIME;
            }
            return power;
        }

        static boolean productFits(Operator left, Operator right) {
            return left.isZero() || right.isZero() || left.degree() + right.degree() <= TOP_DEGREE;
        }

        static boolean powerFits(Operator base, int exponent) {
            return base.isZero() || base.degree() * exponent <= TOP_DEGREE;
        }

        /** Adds factor * left * right to a target that is neither of the two. */
        void addProduct(Operator target, int factor, Operator left, Operator right) {
            int leftExtent = left.extent();
            int rightExtent = right.extent();
            for (int place = 0; place < leftExtent; place++) {
                int cell = left.cells[place];
                if (cell != 0) {
                    addWordProduct(target, factor * cell % PRIME, place, right, rightExtent);
                }
            }
        }

        /** Adds factor * the word (p, q) at a place * right, whose extent the caller knows already. */
        void addWordProduct(Operator target, int factor, int place, Operator right, int extent) {
            int p = Operator.X_AT[place];
            int q = Operator.D_AT[place];
            for (int at = 0; at < extent; at++) {
                int a = Operator.X_AT[at];
                int j = q + Operator.D_AT[at];
                int coefficient = factor * right.cells[at] % PRIME;
                // no caller lets the degree be too great; the row would have no place for it
                int most = coefficient == 0 || p + a + j > TOP_DEGREE ? -1 : Math.min(q, a);
                for (int k = 0; k <= most; k++) {
                    int degree = p + a + j - 2 * k;
                    int to = degree * (degree + 1) / 2 + j - k;
                    int share = coefficient * (choose[q][k] * falling[a][k] % PRIME) % PRIME;
                    target.cells[to] = (target.cells[to] + share) % PRIME;
                }
            }
        }

        /** Sets a target other than the base to a power of the base. */
        void raise(Operator target, Operator base, int exponent) {
            target.makeNumber(1);
            for (int k = 0; k < exponent; k++) {
                spare.makeZero();
                // the base stands on the left, where few terms make it quick
                addProduct(spare, 1, base, target);
                target.copyFrom(spare);
            }
        }

        /** Sets a target other than the source to the adjoint of the source. */
        void adjoin(Operator target, Operator source) {
            target.makeZero();
            for (int j = 0; j <= TOP_DEGREE; j++) {
                spare.makeZero();
                for (int i = 0; i + j <= TOP_DEGREE; i++) {
                    spare.setCoefficient(i, 0, source.coefficient(i, j));
                }
                int sign = j % 2 == 0 ? 1 : PRIME - 1;
                addWordProduct(target, sign, Operator.placeOf(0, j), spare, spare.extent());
            }
        }
    }

    /** Remainders by a sequence of operators other than 0. */
    private static final class Divider {
        private final Algebra algebra;
        private final Operator[] divisors = new Operator[OPERATORS];
        private final int[] leadXs = new int[OPERATORS];
        private final int[] leadDs = new int[OPERATORS];
        private final int[] inverses = new int[OPERATORS];
        private final int[] extents = new int[OPERATORS];
        private int count = 0;
        private int order = 0;

        Divider(Algebra algebra) {
            this.algebra = algebra;
        }

        void begin(int wantedOrder) {
            order = wantedOrder;
            count = 0;
        }

        void take(Operator divisor) {
            int lead = divisor.leadPlace(order);
            if (lead < 0 || count >= OPERATORS) {
                return;
            }
            divisors[count] = divisor;
            leadXs[count] = Operator.X_AT[lead];
            leadDs[count] = Operator.D_AT[lead];
            inverses[count] = Algebra.inverse(divisor.cells[lead]);
            extents[count] = divisor.extent();
            count++;
        }

        /**
         * Sets a target that is none of the divisors to its remainder. A term that no lead divides is left in the
         * target, as all later steps reach lesser words alone.
         */
        void reduce(Operator target) {
            for (int degree = target.degree(); degree >= 0; degree--) {
                for (int rank = 0; rank <= degree; rank++) {
                    int place = Operator.rankedPlace(order, degree, rank);
                    if (target.cells[place] != 0) {
                        cancel(target, place);
                    }
                }
            }
        }

        private void cancel(Operator target, int place) {
            int i = Operator.X_AT[place];
            int j = Operator.D_AT[place];
            for (int k = 0; k < count; k++) {
                if (leadXs[k] <= i && leadDs[k] <= j) {
                    int factor = (PRIME - target.cells[place]) * inverses[k] % PRIME;
                    int word = Operator.placeOf(i - leadXs[k], j - leadDs[k]);
                    algebra.addWordProduct(target, factor, word, divisors[k], extents[k]);
                    return;
                }
            }
        }
    }

    /** A reduced basis, with the order and the operators that it was computed from. */
    private static final class Basis {
        /** A lead of degree 3 or less leaves room for at most 3 other leads of which none divides another. */
        static final int MOST = SET_DEGREE + 1;

        final Operator[] parts = new Operator[MOST];
        private final int[] leadXs = new int[MOST];
        private final int[] leadDs = new int[MOST];
        private final int[] source = new int[OPERATORS * SET_WORDS];
        private int sourceOrder = -1;
        int count = 0;

        Basis() {
            for (int k = 0; k < MOST; k++) {
                parts[k] = new Operator();
            }
        }

        boolean covers(int i, int j) {
            for (int k = 0; k < count; k++) {
                if (leadXs[k] <= i && leadDs[k] <= j) {
                    return true;
                }
            }
            return false;
        }

        boolean isFor(State state, int set) {
            if (sourceOrder != state.order) {
                return false;
            }
            for (int k = 0; k < OPERATORS; k++) {
                for (int place = 0; place < SET_WORDS; place++) {
                    if (source[k * SET_WORDS + place] != sourceCell(state, set, k, place)) {
                        return false;
                    }
                }
            }
            return true;
        }

        void begin(State state, int set) {
            sourceOrder = state.order;
            count = 0;
            for (int k = 0; k < OPERATORS; k++) {
                for (int place = 0; place < SET_WORDS; place++) {
                    source[k * SET_WORDS + place] = sourceCell(state, set, k, place);
                }
            }
        }

        void add(Operator part) {
            int lead = part.leadPlace(sourceOrder);
            if (lead < 0 || count >= MOST) {
                return;
            }
            parts[count].copyFrom(part);
            leadXs[count] = Operator.X_AT[lead];
            leadDs[count] = Operator.D_AT[lead];
            count++;
        }

        /** An operator outside the set counts as 0, which adds nothing to an ideal. */
        private static int sourceCell(State state, int set, int k, int place) {
            return isInSet(set, k) ? state.operators[k].cells[place] : 0;
        }
    }

    /**
     * Buchberger's completion. The kept rows have leads of which none divides another, by descending i; so the
     * pairs of neighbours are enough. The pair whose leads have the least common multiple is always the next
     * one: then, whatever the remainders are, no lead has a degree above 5 and no multiple one above 6.
     */
    private static final class Completion {
        private static final int REMEMBERED = 4;
        private static final int MOST_STEPS = 100000;

        private final Algebra algebra;
        private final Divider divider;
        private final Basis[] bases = new Basis[REMEMBERED];
        private int oldest = 0;
        /** The kept rows come first, the waiting ones follow; more than six there never are. */
        private final Operator[] rows = new Operator[OPERATORS];
        private final int[] leadXs = new int[OPERATORS];
        private final int[] leadDs = new int[OPERATORS];
        private final boolean[] settled = new boolean[OPERATORS];
        private int kept = 0;
        private int waiting = 0;
        private int order = 0;

        Completion(Algebra algebra, Divider divider) {
            this.algebra = algebra;
            this.divider = divider;
            for (int k = 0; k < REMEMBERED; k++) {
                bases[k] = new Basis();
            }
            for (int k = 0; k < OPERATORS; k++) {
                rows[k] = new Operator();
            }
        }

        /** The reduced basis of a set of operators of degree 3 or less. */
        Basis find(State state, int set) {
            for (int k = 0; k < REMEMBERED; k++) {
                if (bases[k].isFor(state, set)) {
                    return bases[k];
                }
            }
            Basis basis = bases[oldest];
            oldest = (oldest + 1) % REMEMBERED;
            gather(state, set);
            complete();
            reduceTails();
            basis.begin(state, set);
            handOver(basis);
            return basis;
        }

        private void gather(State state, int set) {
            order = state.order;
            kept = 0;
            waiting = 0;
            for (int k = 0; k < OPERATORS; k++) {
                if (isInSet(set, k)) {
                    rows[waiting].copyFrom(state.operators[k]);
                    waiting++;
                }
            }
        }

        private void complete() {
            for (int step = 0; step < MOST_STEPS; step++) {
                if (waiting > 0) {
                    absorb();
                } else {
                    int pair = cheapestPair();
                    if (pair < 0) {
                        return;
                    }
                    settled[pair] = true;
                    cross(pair);
                }
            }
        }

        /** Takes the first waiting row in, if something of it is left. */
        private void absorb() {
            if (kept + waiting > OPERATORS) {
                waiting = 0;
                return;
            }
            Operator row = rows[kept];
            divider.begin(order);
            for (int k = 0; k < kept; k++) {
                divider.take(rows[k]);
            }
            divider.reduce(row);
            int lead = row.leadPlace(order);
            if (lead < 0) {
                rows[kept] = rows[kept + waiting - 1];
                rows[kept + waiting - 1] = row;
                waiting--;
                return;
            }
            row.scale(Algebra.inverse(row.cells[lead]));
            int i = Operator.X_AT[lead];
            int j = Operator.D_AT[lead];
            for (int k = kept - 1; k >= 0; k--) {
                if (i <= leadXs[k] && j <= leadDs[k]) {
                    dismiss(k);
                }
            }
            admit(i, j);
        }

        /** Lets a kept row wait again, right behind the waiting row that is about to be admitted. */
        private void dismiss(int gone) {
            Operator row = rows[gone];
            for (int k = gone; k < kept && k + 1 < OPERATORS; k++) {
                rows[k] = rows[k + 1];
                leadXs[k] = leadXs[k + 1];
                leadDs[k] = leadDs[k + 1];
                settled[k] = settled[k + 1];
            }
            rows[kept] = row;
            kept--;
            waiting++;
            unsettle(gone - 1);
        }

        /** Puts the first waiting row, whose lead is (i, j), where it belongs among the kept ones. */
        private void admit(int i, int j) {
            Operator row = rows[kept];
            int place = kept;
            while (place > 0 && leadXs[place - 1] < i) {
                rows[place] = rows[place - 1];
                leadXs[place] = leadXs[place - 1];
                leadDs[place] = leadDs[place - 1];
                settled[place] = settled[place - 1];
                place--;
            }
            rows[place] = row;
            leadXs[place] = i;
            leadDs[place] = j;
            kept++;
            waiting--;
            unsettle(place);
            unsettle(place - 1);
        }

        private void unsettle(int pair) {
            if (pair >= 0) {
                settled[pair] = false;
            }
        }

        /** The number of the first row of the next pair, or -1 if all pairs are settled. */
        private int cheapestPair() {
            int best = -1;
            int least = TOP_DEGREE + 1;
            for (int k = 0; k + 1 < kept; k++) {
                int degree = leadXs[k] + leadDs[k + 1];
                if (!settled[k] && degree < least) {
                    best = k;
                    least = degree;
                }
            }
            return best;
        }

        /** Lets the difference of a pair wait in which the leads have been brought to the same word. */
        private void cross(int pair) {
            int moreXs = leadXs[pair] - leadXs[pair + 1];
            int moreDs = leadDs[pair + 1] - leadDs[pair];
            if (kept >= OPERATORS || moreXs < 0 || moreDs < 0) {
                return;
            }
            Operator target = rows[kept];
            Operator first = rows[pair];
            Operator second = rows[pair + 1];
            int xs = Operator.placeOf(moreXs, 0);
            int ds = Operator.placeOf(0, moreDs);
            target.makeZero();
            algebra.addWordProduct(target, 1, ds, first, first.extent());
            algebra.addWordProduct(target, PRIME - 1, xs, second, second.extent());
            waiting = 1;
        }

        private void reduceTails() {
            for (int k = 0; k < kept; k++) {
                divider.begin(order);
                for (int m = 0; m < kept; m++) {
                    if (m != k) {
                        divider.take(rows[m]);
                    }
                }
                divider.reduce(rows[k]);
            }
        }

        private void handOver(Basis basis) {
            int above = -1;
            for (int step = 0; step < kept; step++) {
                int best = -1;
                int least = WORDS;
                for (int k = 0; k < kept; k++) {
                    int height = Operator.height(order, Operator.placeOf(leadXs[k], leadDs[k]));
                    if (height > above && height < least) {
                        best = k;
                        least = height;
                    }
                }
                if (best >= 0) {
                    basis.add(rows[best]);
                }
                above = least;
            }
        }
    }

    /** What operators make of polynomials. */
    private static final class Action {
        private static final int COLUMNS = TOP_KERNEL_POWER + TOP_DEGREE + 1;

        private final int[][] falling;
        private final int[][] rows = new int[TOP_KERNEL_POWER + 1][TOP_POWER + 1];
        final int[] image = new int[TOP_POWER + 1];

        Action(Algebra algebra) {
            falling = algebra.falling;
        }

        /** The greatest power with a coefficient other than 0, or -1. */
        static int degree(int[] polynomial) {
            for (int n = polynomial.length - 1; n >= 0; n--) {
                if (polynomial[n] != 0) {
                    return n;
                }
            }
            return -1;
        }

        /** Whether no term of the operator makes a power above 30; the greatest power decides it. */
        boolean fits(Operator operator, int[] polynomial) {
            int top = degree(polynomial);
            for (int place = 0; place < WORDS; place++) {
                int j = Operator.D_AT[place];
                if (operator.cells[place] != 0 && j <= top && top - j + Operator.X_AT[place] > TOP_POWER) {
                    return false;
                }
            }
            return true;
        }

        /** Sets the image to what the operator makes of a polynomial. */
        void apply(Operator operator, int[] polynomial) {
            Arrays.fill(image, 0);
            int top = degree(polynomial);
            for (int n = 0; n <= top; n++) {
                if (polynomial[n] != 0) {
                    addImage(image, operator, polynomial[n], n);
                }
            }
        }

        /** Adds what the operator makes of factor * x^n. */
        private void addImage(int[] target, Operator operator, int factor, int n) {
            for (int degree = 0; degree <= TOP_DEGREE; degree++) {
                for (int j = 0; j <= degree && j <= n; j++) {
                    int cell = operator.cells[Operator.firstPlace(degree) + j];
                    int power = n - j + degree - j;
                    if (cell != 0 && power <= TOP_POWER) {
                        int share = factor * (cell * falling[n][j] % PRIME) % PRIME;
                        target[power] = (target[power] + share) % PRIME;
                    }
                }
            }
        }

        int kernelDimension(Operator operator, int n) {
            int count = Math.min(n, TOP_KERNEL_POWER) + 1;
            for (int k = 0; k < count; k++) {
                Arrays.fill(rows[k], 0);
                addImage(rows[k], operator, 1, k);
            }
            int rank = 0;
            for (int column = 0; column < COLUMNS && rank < count; column++) {
                int pivot = pivotRow(rank, count, column);
                if (pivot >= 0) {
                    int[] row = rows[pivot];
                    rows[pivot] = rows[rank];
                    rows[rank] = row;
                    clearBelow(rank, count, column);
                    rank++;
                }
            }
            return count - rank;
        }

        private int pivotRow(int from, int count, int column) {
            for (int k = from; k < count; k++) {
                if (rows[k][column] != 0) {
                    return k;
                }
            }
            return -1;
        }

        private void clearBelow(int pivot, int count, int column) {
            int inverse = Algebra.inverse(rows[pivot][column]);
            for (int k = pivot + 1; k < count; k++) {
                int factor = (PRIME - rows[k][column]) * inverse % PRIME;
                if (factor != 0) {
                    for (int m = column; m < COLUMNS; m++) {
                        rows[k][m] = (rows[k][m] + factor * rows[pivot][m]) % PRIME;
                    }
                }
            }
        }
    }

    /** The text buffer, and where a text is no expression. */
    private static final class Text {
        private static final int BEGIN = 0;
        private static final int OPERAND = 1;
        private static final int BASE_READ = 2;
        private static final int EXPONENT = 3;
        private static final int FACTOR_READ = 4;

        private final int[] bytes = new int[TEXT_BYTES];
        int length = 0;
        private int mode = BEGIN;
        private int open = 0;

        void append(int c) {
            if (length < TEXT_BYTES) {
                bytes[length] = c;
                length++;
            }
        }

        /** The byte at a position, or -1 behind the end. */
        int byteAt(int at) {
            return at >= 0 && at < length && at < TEXT_BYTES ? bytes[at] : -1;
        }

        boolean isDigit(int at) {
            int c = byteAt(at);
            return c >= '0' && c <= '9';
        }

        /** The fault of the text, or -1 if it is an expression. */
        int fault() {
            mode = BEGIN;
            open = 0;
            int at = 0;
            for (int step = 0; step < TEXT_BYTES && at < length; step++) {
                int next = byteAt(at) == ' ' ? at + 1 : pass(at);
                if (next < 0) {
                    return -1 - next;
                }
                at = next;
            }
            boolean ended = (mode == BASE_READ || mode == FACTOR_READ) && open == 0;
            return ended ? -1 : length;
        }

        /** The position behind what stands at a position, or -1 minus the fault. */
        private int pass(int at) {
            switch (mode) {
                case BEGIN:
                    if (byteAt(at) == '-') {
                        mode = OPERAND;
                        return at + 1;
                    }
                    return passOperand(at);
                case OPERAND:
                    return passOperand(at);
                case EXPONENT:
                    return passExponent(at);
                default:
                    return passLink(at);
            }
        }

        private int passOperand(int at) {
            int c = byteAt(at);
            if (c == '(') {
                if (open >= OPEN_PARENTHESES) {
                    return -1 - at;
                }
                open++;
                mode = BEGIN;
                return at + 1;
            }
            if (c == 'x' || c == 'd') {
                mode = BASE_READ;
                return at + 1;
            }
            int digits = countDigits(at, 5);
            if (digits == 0) {
                return -1 - at;
            }
            if (digits == 5) {
                return -1 - (at + 4);
            }
            mode = BASE_READ;
            return at + digits;
        }

        private int passExponent(int at) {
            int digits = countDigits(at, 3);
            if (digits == 0) {
                return -1 - at;
            }
            if (digits == 3) {
                return -1 - (at + 2);
            }
            if (valueOf(at, digits) > TOP_EXPONENT) {
                return -1 - at;
            }
            mode = FACTOR_READ;
            return at + digits;
        }

        private int passLink(int at) {
            int c = byteAt(at);
            if (c == '^' && mode == BASE_READ) {
                mode = EXPONENT;
            } else if (c == '+' || c == '-' || c == '*') {
                mode = OPERAND;
            } else if (c == ')' && open > 0) {
                open--;
                mode = BASE_READ;
            } else {
                return -1 - at;
            }
            return at + 1;
        }

        int countDigits(int at, int most) {
            int count = 0;
            while (count < most && isDigit(at + count)) {
                count++;
            }
            return count;
        }

        int valueOf(int at, int digits) {
            int value = 0;
            for (int k = 0; k < digits; k++) {
                value = value * 10 + (byteAt(at + k) - '0');
            }
            return value;
        }
    }

    /** Evaluates a text that is an expression. Its methods answer false where a product or a power is too great. */
    private static final class Reader {
        private final Algebra algebra;
        private final Text text;
        private final Operator[] totals = new Operator[OPEN_PARENTHESES + 1];
        private final Operator[] products = new Operator[OPEN_PARENTHESES + 1];
        private final Operator factor = new Operator();
        private final Operator spare = new Operator();
        private int at = 0;

        Reader(Algebra algebra, Text text) {
            this.algebra = algebra;
            this.text = text;
            for (int depth = 0; depth <= OPEN_PARENTHESES; depth++) {
                totals[depth] = new Operator();
                products[depth] = new Operator();
            }
        }

        boolean evaluate(Operator target) {
            at = 0;
            if (!readExpression(0)) {
                return false;
            }
            target.copyFrom(totals[0]);
            return true;
        }

        /** Reads an expression into the total of its depth. */
        private boolean readExpression(int depth) {
            if (depth > OPEN_PARENTHESES) {
                return false;
            }
            totals[depth].makeZero();
            int sign = peek() == '-' ? PRIME - 1 : 1;
            if (sign != 1) {
                at++;
            }
            for (int step = 0; step < TEXT_BYTES; step++) {
                if (!readTerm(depth)) {
                    return false;
                }
                totals[depth].addMultiple(products[depth], sign);
                int link = peek();
                if (link != '+' && link != '-') {
                    return true;
                }
                sign = link == '-' ? PRIME - 1 : 1;
                at++;
            }
            return true;
        }

        /** Reads a term into the product of its depth. */
        private boolean readTerm(int depth) {
            Operator product = products[depth];
            product.makeNumber(1);
            for (int step = 0; step < TEXT_BYTES; step++) {
                if (!readFactor(depth) || !Algebra.productFits(product, factor)) {
                    return false;
                }
                spare.makeZero();
                algebra.addProduct(spare, 1, product, factor);
                product.copyFrom(spare);
                if (peek() != '*') {
                    return true;
                }
                at++;
            }
            return true;
        }

        /** Reads a factor with its exponent into the one row for factors, which is used up at once. */
        private boolean readFactor(int depth) {
            int c = peek();
            if (c == '(') {
                at++;
                if (!readExpression(depth + 1)) {
                    return false;
                }
                peek();
                at++;
                factor.copyFrom(totals[depth + 1]);
            } else if (c == 'x' || c == 'd') {
                at++;
                factor.makeZero();
                factor.setCoefficient(c == 'x' ? 1 : 0, c == 'd' ? 1 : 0, 1);
            } else {
                factor.makeNumber(readNumber(4));
            }
            if (peek() != '^') {
                return true;
            }
            at++;
            peek();
            int exponent = readNumber(2);
            if (!Algebra.powerFits(factor, exponent)) {
                return false;
            }
            algebra.raise(spare, factor, exponent);
            factor.copyFrom(spare);
            return true;
        }

        private int readNumber(int mostDigits) {
            int digits = text.countDigits(at, mostDigits);
            int value = text.valueOf(at, digits);
            at += digits;
            return value;
        }

        /** The next byte that is no space, or -1 at the end. */
        private int peek() {
            while (at < text.length && text.byteAt(at) == ' ') {
                at++;
            }
            return text.byteAt(at);
        }
    }

    /** Operators as texts, term by term. */
    private static final class Writer {
        private final int[] bytes = new int[20];
        private int length = 0;

        /** The byte at a position of an operator's text, or NONE. */
        int byteAt(Operator operator, int order, int position) {
            int top = operator.degree();
            if (top < 0) {
                return position == 0 ? '0' : NONE;
            }
            int before = 0;
            for (int degree = top; degree >= 0; degree--) {
                for (int rank = 0; rank <= degree; rank++) {
                    int place = Operator.rankedPlace(order, degree, rank);
                    if (operator.cells[place] != 0) {
                        writeTerm(Algebra.balanced(operator.cells[place]), place, before == 0);
                        if (position - before < length) {
                            return bytes[position - before];
                        }
                        before += length;
                    }
                }
            }
            return NONE;
        }

        private void writeTerm(int coefficient, int place, boolean first) {
            length = 0;
            if (coefficient < 0) {
                write('-');
            } else if (!first) {
                write('+');
            }
            int size = Math.abs(coefficient);
            boolean hasNumber = size != 1 || place == 0;
            if (hasNumber) {
                writeNumber(size);
            }
            int i = Operator.X_AT[place];
            int j = Operator.D_AT[place];
            writeLetter('x', i, hasNumber);
            writeLetter('d', j, hasNumber || i > 0);
        }

        private void writeLetter(int letter, int exponent, boolean behindAnother) {
            if (exponent == 0) {
                return;
            }
            if (behindAnother) {
                write('*');
            }
            write(letter);
            if (exponent > 1) {
                write('^');
                writeNumber(exponent);
            }
        }

        /** Writes a number from 1 to 9999. */
        private void writeNumber(int number) {
            boolean begun = false;
            for (int unit = 1000; unit > 0; unit /= 10) {
                int digit = number / unit % 10;
                begun = begun || digit > 0;
                if (begun) {
                    write('0' + digit);
                }
            }
        }

        private void write(int c) {
            if (length < bytes.length) {
                bytes[length] = c;
                length++;
            }
        }
    }
}
