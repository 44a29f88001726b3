import java.util.ArrayList;
import java.util.List;
import java.util.function.Supplier;

/** The boundary cases of the promises 25 to 27, of what the document says of states and errors, and of the 512 calls. */
public final class BoundaryStatesTest {
    private static final int NONE = Boundary.NONE, BAD = Boundary.BAD, NO = Boundary.NO, FULL = Boundary.FULL;
    private static final int MAX = Boundary.MAX, MIN = Boundary.MIN;
    private static final String CHANGES = "A method that is marked \"Change.\" stores the state before it, if it returns no error "
        + "(also if nothing is altered by it): all operators, all polynomials, and the order.";
    private static final String LAST_5 = "The last 5 stored states are kept; back() returns to the last one of them.";
    private static final String RETURNS_TO = "Returns to the last stored state, which is not stored any more then.";
    private static final String NUMBERS = "what: 0, 1, 2: how often BAD, NO, FULL has been returned; 3: the length of the text; 4: the order; "
        + "5: the number of stored states";
    private static final String ALL_NUMBERS = "The numbers are: told(0) to told(5); for each operator of(s, 0) to of(s, 8), and then the coefficients "
        + "of all words by ascending degree, within a degree by ascending j; for each polynomial the coefficients by ascending power.";

    private static void sentence(int promise, String text) {
        Boundary.sentence(promise, text);
    }

    private static void due(String call, long got, long want) {
        Boundary.due(call, got, want);
    }

    private static void due(String call, String got, String want) {
        Boundary.due(call, got, want);
    }

    public static void main(String[] args) throws Exception {
        lastCalls();
        constants();
        changesStore();
        othersDoNot();
        lastFive();
        errorsOfEachKind();
        firstErrorFirst();
        errorsChangeNothing();
        noneIsNoError();
        back();
        backAtTheEnds();
        told();
        toldCounts();
        digest();
        digestOfEachNumber();
        Boundary.finish(25, 27);
    }

    private static Boundary.Probe fresh() {
        return new Boundary.Probe();
    }

    /** A call with a name, and what it answers on a dense object. */
    private record Named(String name, Boundary.Call call, int answer) {
    }

    /** An object with as many terms as there can be in some operators and polynomials, two errors of each kind, and a text. */
    private static Boundary.Probe dense() {
        Boundary.Probe p = Boundary.with("(x+d+1)^12", "x^2*d-7*d+1", "0", "x^12-d^12", "x*d-3");
        p.sums(5, 0, 5003, 3, -1);
        for (int n = 0; n <= 30; n++) {
            p.puts(0, n, 100 + n);
        }
        p.puts(1, 11, 6);
        p.puts(1, 0, -6);
        for (int k = 0; k < 2; k++) {
            p.told(-1);
            p.rest(0, 0, 4);
            p.times(0, 0, 1);
        }
        p.order(1);
        p.typed("d*x-x");
        return p;
    }

    /** All calls that are marked Change, each in a place where it is no error. */
    private static List<Named> changes() {
        List<Named> calls = new ArrayList<>();
        calls.add(new Named("sets(0, 12, 0, 9)", p -> p.sets(0, 12, 0, 9), 1));
        calls.add(new Named("sets(2, 0, 0, 0), which alters nothing", p -> p.sets(2, 0, 0, 0), 0));
        calls.add(new Named("sums(0, 1, 1, 4, 1)", p -> p.sums(0, 1, 1, 4, 1), 4));
        calls.add(new Named("sums(1, 1, 1, 1, 0), which alters nothing", p -> p.sums(1, 1, 1, 1, 0), 3));
        calls.add(new Named("times(3, 4, 1)", p -> p.times(3, 4, 1), 6));
        calls.add(new Named("times(2, 2, 0), which alters nothing", p -> p.times(2, 2, 0), 0));
        calls.add(new Named("bracket(0, 4, 4)", p -> p.bracket(0, 4, 4), 0));
        calls.add(new Named("power(5, 4, 2)", p -> p.power(5, 4, 2), 3));
        calls.add(new Named("power(0, 0, 1), which alters nothing", p -> p.power(0, 0, 1), 91));
        calls.add(new Named("reversed(4, 4)", p -> p.reversed(4, 4), 2));
        calls.add(new Named("order(0)", p -> p.order(0), 1));
        calls.add(new Named("order(1), which alters nothing", p -> p.order(1), 1));
        calls.add(new Named("puts(0, 30, 0)", p -> p.puts(0, 30, 0), 130));
        calls.add(new Named("puts(1, 30, 0), which alters nothing", p -> p.puts(1, 30, 0), 0));
        calls.add(new Named("makes(0, 4, 1)", p -> p.makes(0, 4, 1), 11));
        calls.add(new Named("makes(0, 2, 0)", p -> p.makes(0, 2, 0), NONE));
        calls.add(new Named("kills(0, 1)", p -> p.kills(0, 1), 3));
        calls.add(new Named("rest(0, 1, 16)", p -> p.rest(0, 1, 16), 3));
        calls.add(new Named("rest(4, 4, 16)", p -> p.rest(4, 4, 16), 0));
        calls.add(new Named("reads(3)", p -> p.reads(3), 3));
        return calls;
    }

    /** All calls that are not marked Change, but for back(). */
    private static List<Named> looks() {
        List<Named> calls = new ArrayList<>();
        calls.add(new Named("at(0, 3, 9)", p -> p.at(0, 3, 9), 220));
        calls.add(new Named("of(0, 0)", p -> p.of(0, 0), 91));
        calls.add(new Named("of(2, 1)", p -> p.of(2, 1), NONE));
        calls.add(new Named("rate(0, 30)", p -> p.rate(0, 30), 130));
        calls.add(new Named("kernel(4, 15)", p -> p.kernel(4, 15), 1));
        calls.add(new Named("basis(18)", p -> p.basis(18), 1));
        calls.add(new Named("based(16, 0, 0, 0)", p -> p.based(16, 0, 0, 0), -3));
        calls.add(new Named("stairs(16, 20)", p -> p.stairs(16, 20), 2));
        calls.add(new Named("within(0, 16)", p -> p.within(0, 16), 0));
        calls.add(new Named("shown(4, 4)", p -> p.shown(4, 4), '3'));
        calls.add(new Named("shown(4, 5)", p -> p.shown(4, 5), NONE));
        calls.add(new Named("told(2)", p -> p.told(2), 2));
        return calls;
    }

    /** Calls that are refused. */
    private static List<Named> errors() {
        List<Named> calls = new ArrayList<>();
        calls.add(new Named("sets(6, 0, 0, 1)", p -> p.sets(6, 0, 0, 1), BAD));
        calls.add(new Named("sets(0, 7, 6, 1)", p -> p.sets(0, 7, 6, 1), BAD));
        calls.add(new Named("at(0, -1, 0)", p -> p.at(0, -1, 0), BAD));
        calls.add(new Named("sums(0, 6, 1, 0, 1)", p -> p.sums(0, 6, 1, 0, 1), BAD));
        calls.add(new Named("times(0, 0, -1)", p -> p.times(0, 0, -1), BAD));
        calls.add(new Named("times(0, 0, 1)", p -> p.times(0, 0, 1), FULL));
        calls.add(new Named("bracket(6, 0, 0)", p -> p.bracket(6, 0, 0), BAD));
        calls.add(new Named("bracket(2, 0, 0)", p -> p.bracket(2, 0, 0), FULL));
        calls.add(new Named("power(0, 0, 13)", p -> p.power(0, 0, 13), BAD));
        calls.add(new Named("power(0, 1, 5)", p -> p.power(0, 1, 5), FULL));
        calls.add(new Named("reversed(0, 6)", p -> p.reversed(0, 6), BAD));
        calls.add(new Named("of(0, 9)", p -> p.of(0, 9), BAD));
        calls.add(new Named("order(2)", p -> p.order(2), BAD));
        calls.add(new Named("puts(2, 0, 1)", p -> p.puts(2, 0, 1), BAD));
        calls.add(new Named("rate(0, 31)", p -> p.rate(0, 31), BAD));
        calls.add(new Named("makes(0, 0, 2)", p -> p.makes(0, 0, 2), BAD));
        calls.add(new Named("makes(1, 0, 0)", p -> p.makes(1, 0, 0), FULL));
        calls.add(new Named("kernel(0, 16)", p -> p.kernel(0, 16), BAD));
        calls.add(new Named("kills(0, 2)", p -> p.kills(0, 2), BAD));
        calls.add(new Named("kills(1, 0)", p -> p.kills(1, 0), FULL));
        calls.add(new Named("rest(0, 1, 0)", p -> p.rest(0, 1, 0), BAD));
        calls.add(new Named("rest(0, 1, 20)", p -> p.rest(0, 1, 20), NO));
        calls.add(new Named("basis(64)", p -> p.basis(64), BAD));
        calls.add(new Named("basis(17)", p -> p.basis(17), NO));
        calls.add(new Named("based(2, -1, 0, 0)", p -> p.based(2, -1, 0, 0), BAD));
        calls.add(new Named("based(8, 0, 0, 0)", p -> p.based(8, 0, 0, 0), NO));
        calls.add(new Named("stairs(2, 21)", p -> p.stairs(2, 21), BAD));
        calls.add(new Named("stairs(1, 0)", p -> p.stairs(1, 0), NO));
        calls.add(new Named("within(6, 2)", p -> p.within(6, 2), BAD));
        calls.add(new Named("within(1, 63)", p -> p.within(1, 63), NO));
        calls.add(new Named("type(128)", p -> p.type(128), BAD));
        calls.add(new Named("reads(6)", p -> p.reads(6), BAD));
        calls.add(new Named("shown(0, -1)", p -> p.shown(0, -1), BAD));
        calls.add(new Named("told(6)", p -> p.told(6), BAD));
        return calls;
    }

    // ---- how many calls there are

    private static void lastCalls() {
        sentence(0, "An object is used for at most 512 calls after it has been made; what later calls answer is free.");
        List<Named> calls = changes();
        calls.addAll(looks());
        calls.addAll(errors());
        for (Named last : calls) {
            Boundary.Probe p = dense();
            while (p.calls() < 511) {
                p.at(0, 0, 0);
            }
            due("the call 512, " + last.name(), last.call().on(p), last.answer());
        }
        Boundary.Probe bad = fresh();
        for (int n = 1; n <= 511; n++) {
            due("the error " + n, bad.at(n, -1, n), BAD);
        }
        due("the call 512", bad.told(0), 511);
        Boundary.Probe no = fresh();
        for (int n = 1; n <= 511; n++) {
            due("the error " + n, no.back(), NO);
        }
        due("the call 512", no.told(1), 511);
        Boundary.Probe full = Boundary.with("x^12");
        int before = full.calls();
        while (full.calls() < 511) {
            due("one more error", full.times(0, 0, 0), FULL);
        }
        due("the call 512", full.told(2), 511 - before);
        Boundary.Probe changing = fresh();
        for (int n = 1; n <= 506; n++) {
            due("the change " + n, changing.sets(0, 0, 0, n), n - 1);
        }
        for (int n = 4; n >= 0; n--) {
            due("back() from there", changing.back(), n);
        }
        due("the call 512", changing.at(0, 0, 0), 501);
    }

    private static void constants() {
        sentence(0, "public static final int NONE = -20001, BAD = -20002, NO = -20003, FULL = -20004;");
        due("NONE", WeylWords.NONE, -20001);
        due("BAD", WeylWords.BAD, -20002);
        due("NO", WeylWords.NO, -20003);
        due("FULL", WeylWords.FULL, -20004);
    }

    // ---- states

    private static void changesStore() {
        sentence(0, CHANGES);
        for (Named change : changes()) {
            Boundary.changing(change.name(), BoundaryStatesTest::dense, change.call(), change.answer());
        }
        // the stored state is a copy: what comes after it leaves it as it is
        for (Named first : changes()) {
            for (Named second : changes()) {
                Boundary.Probe p = dense();
                long before = p.picture();
                first.call().on(p);
                long between = p.picture();
                if (second.call().on(p) == NO) {
                    // the first one has made 0 of what the second one divides by
                    continue;
                }
                due("back() over " + second.name(), p.back(), 4);
                due("the state after " + first.name(), p.picture(), between);
                due("back() over " + first.name(), p.back(), 3);
                due("the state before " + first.name(), p.picture(), before);
            }
        }
        for (int s = 0; s < 6; s++) {
            for (int k = 0; k < 91; k += 10) {
                Boundary.Probe p = dense();
                int degree = 12 - k / 10, j = k % (degree + 1);
                int old = p.at(s, degree - j, j);
                p.sets(s, degree - j, j, old + 1);
                p.back();
                due("at(" + s + ", " + (degree - j) + ", " + j + ") after back()", p.at(s, degree - j, j), old);
            }
        }
    }

    private static void othersDoNot() {
        sentence(0, CHANGES);
        for (Named look : looks()) {
            Boundary.harmless(look.name(), BoundaryStatesTest::dense, look.call(), look.answer());
        }
        for (Named error : errors()) {
            Boundary.refused(error.name(), BoundaryStatesTest::dense, error.call(), error.answer());
        }
        for (int n = 0; n <= 5; n++) {
            Boundary.Probe p = changed(n);
            p.type('x');
            due("type() stores nothing", p.told(5), n);
            p.clear();
            due("clear() stores nothing", p.told(5), n);
            p.reads(0);
            due("a fault stores nothing", p.told(5), n);
            p.digest();
            due("digest() stores nothing", p.told(5), n);
            for (Named look : looks()) {
                look.call().on(p);
                due(look.name() + " stores nothing", p.told(5), n);
            }
        }
    }

    /** An object whose number of operator 0 has been set to 1, 2, .. */
    private static Boundary.Probe changed(int times) {
        Boundary.Probe p = fresh();
        for (int n = 1; n <= times; n++) {
            p.sets(0, 0, 0, n);
        }
        return p;
    }

    private static void lastFive() {
        sentence(0, LAST_5);
        for (int n = 0; n <= 20; n++) {
            Boundary.Probe p = changed(n);
            int stored = Math.min(n, 5);
            due("stored states after " + n + " changes", p.told(5), stored);
            for (int k = 1; k <= stored; k++) {
                due("back() for the time " + k, p.back(), stored - k);
                due("the state", p.at(0, 0, 0), n - k);
                due("stored states", p.told(5), stored - k);
            }
            due("back() once too often", p.back(), NO);
            due("the state stays", p.at(0, 0, 0), n - stored);
        }
        // changes and back() in turn, with a list beside them
        for (int seed = 1; seed <= 40; seed++) {
            Boundary.Probe p = fresh();
            List<Integer> states = new ArrayList<>();
            int now = 0, random = seed;
            for (int n = 1; n <= 250; n++) {
                random = random * 1103515245 + 12345;
                if ((random >>> 16) % 100 < 30 + seed) {
                    int answer = p.back();
                    due("back()", answer, states.isEmpty() ? NO : states.size() - 1);
                    now = states.isEmpty() ? now : states.remove(states.size() - 1);
                } else {
                    due("sets()", p.sets(3, 2, 1, n), now);
                    states.add(now);
                    now = n;
                    if (states.size() > 5) {
                        states.remove(0);
                    }
                }
                due("the state", p.at(3, 2, 1), now);
            }
        }
    }

    // ---- errors

    private static void errorsOfEachKind() {
        sentence(0, "BAD: an argument is out of its range, or names something that does not exist.");
        errorsOf(BAD);
        sentence(0, "NO: the call is not possible, as the method says.");
        errorsOf(NO);
        Boundary.refused("back() at first", BoundaryStatesTest::fresh, p -> p.back(), NO);
        Boundary.refused("kills(0, 0) at first", BoundaryStatesTest::fresh, p -> p.kills(0, 0), NO);
        sentence(0, "FULL: an operator would have a degree above 12, a polynomial a power above 30, or the text more than 120 bytes.");
        errorsOf(FULL);
        Boundary.refused("reads(0)", () -> fresh().typed("x^12*d"), p -> p.reads(0), FULL);
        Boundary.refused("type(32)", () -> fresh().typed(" ".repeat(120)), p -> p.type(32), FULL);
        Boundary.Probe p = Boundary.with("x^12", "x");
        p.puts(0, 18, 1);
        due("a power of 30", p.makes(0, 0, 0), 30);
        due("a power of 31", p.makes(0, 1, 0), FULL);
        due("a degree of 12", p.power(2, 1, 12), 1);
        due("a degree of 13", p.times(2, 2, 1), FULL);
    }

    private static void errorsOf(int code) {
        for (Named error : errors()) {
            if (error.answer() == code) {
                Boundary.refused(error.name(), BoundaryStatesTest::dense, error.call(), code);
            }
        }
    }

    private static void firstErrorFirst() {
        sentence(0, "If several apply, the first one in this order is returned.");
        Supplier<Boundary.Probe> dense = BoundaryStatesTest::dense;
        // BAD and FULL
        Boundary.refused("times(6, 0, 0)", dense, p -> p.times(6, 0, 0), BAD);
        Boundary.refused("bracket(6, 0, 0)", dense, p -> p.bracket(6, 0, 0), BAD);
        Boundary.refused("power(6, 0, 2)", dense, p -> p.power(6, 0, 2), BAD);
        Boundary.refused("power(0, 0, 13)", dense, p -> p.power(0, 0, 13), BAD);
        Boundary.refused("makes(2, 0, 0)", dense, p -> p.makes(2, 0, 0), BAD);
        Boundary.refused("kills(6, 0)", dense, p -> p.kills(6, 0), BAD);
        Boundary.refused("type(128) behind 120 bytes", () -> fresh().typed(" ".repeat(120)), p -> p.type(128), BAD);
        Boundary.refused("reads(6) of x^12*d", () -> fresh().typed("x^12*d"), p -> p.reads(6), BAD);
        // BAD and NO
        Boundary.refused("kills(6, 0) at first", BoundaryStatesTest::fresh, p -> p.kills(6, 0), BAD);
        Boundary.refused("rest(6, 0, 4)", dense, p -> p.rest(6, 0, 4), BAD);
        Boundary.refused("rest(0, 6, 4)", dense, p -> p.rest(0, 6, 4), BAD);
        Boundary.refused("rest(0, 0, 68)", dense, p -> p.rest(0, 0, 68), BAD);
        Boundary.refused("basis(65)", dense, p -> p.basis(65), BAD);
        Boundary.refused("based(65, 0, 0, 0)", dense, p -> p.based(65, 0, 0, 0), BAD);
        Boundary.refused("based(1, -1, 0, 0)", dense, p -> p.based(1, -1, 0, 0), BAD);
        Boundary.refused("based(1, 0, 16, 0)", dense, p -> p.based(1, 0, 16, 0), BAD);
        Boundary.refused("based(1, 0, 0, 16)", dense, p -> p.based(1, 0, 0, 16), BAD);
        Boundary.refused("stairs(65, 0)", dense, p -> p.stairs(65, 0), BAD);
        Boundary.refused("stairs(1, 21)", dense, p -> p.stairs(1, 21), BAD);
        Boundary.refused("within(6, 1)", dense, p -> p.within(6, 1), BAD);
        Boundary.refused("within(0, 65)", dense, p -> p.within(0, 65), BAD);
    }

    private static void errorsChangeNothing() {
        sentence(0, "A call that returns one of these changes nothing, but it is counted.");
        for (Named error : errors()) {
            Boundary.Probe p = dense();
            long before = p.picture();
            int[] counts = {p.told(0), p.told(1), p.told(2)};
            int kind = BAD - error.answer();
            for (int n = 1; n <= 8; n++) {
                due(error.name() + " for the time " + n, error.call().on(p), error.answer());
                counts[kind]++;
                due("all but the counts", p.picture(), before);
                for (int k = 0; k < 3; k++) {
                    due("told(" + k + ") after " + error.name(), p.told(k), counts[k]);
                }
            }
            due("the stored states after " + error.name(), p.told(5), 5);
        }
    }

    private static void noneIsNoError() {
        sentence(0, "NONE is no error: there is no such thing.");
        Boundary.Probe p = fresh();
        for (int s = 0; s < 6; s++) {
            for (int what = 1; what <= 7; what++) {
                due("of(" + s + ", " + what + ")", p.of(s, what), NONE);
            }
            due("shown(" + s + ", 1)", p.shown(s, 1), NONE);
        }
        due("makes(0, 0, 0)", p.makes(0, 0, 0), NONE);
        due("the state before it is stored", p.told(5), 1);
        due("told(0)", p.told(0), 0);
        due("told(1)", p.told(1), 0);
        due("told(2)", p.told(2), 0);
        sentence(0, "It is returned only if no error applies.");
        Boundary.refused("of(6, 1) at first", BoundaryStatesTest::fresh, q -> q.of(6, 1), BAD);
        Boundary.refused("of(0, 9) at first", BoundaryStatesTest::fresh, q -> q.of(0, 9), BAD);
        Boundary.refused("shown(6, 1) at first", BoundaryStatesTest::fresh, q -> q.shown(6, 1), BAD);
        Boundary.refused("shown(0, -1) at first", BoundaryStatesTest::fresh, q -> q.shown(0, -1), BAD);
        Boundary.refused("makes(0, 6, 0) at first", BoundaryStatesTest::fresh, q -> q.makes(0, 6, 0), BAD);
        Boundary.refused("makes(2, 0, 0) at first", BoundaryStatesTest::fresh, q -> q.makes(2, 0, 0), BAD);
        Boundary.refused("a sum of 0 with parts above 30", () -> above30(), q -> q.makes(0, 0, 0), FULL);
    }

    private static Boundary.Probe above30() {
        Boundary.Probe p = Boundary.with("x^7*d-26*x^6");
        p.puts(0, 26, 1);
        return p;
    }

    // ---- promise 25

    private static void back() {
        sentence(25, RETURNS_TO);
        Boundary.Probe p = Boundary.with("x", "d^2", "x*d", "7", "d-x", "x^12");
        p.puts(0, 30, 5);
        p.puts(1, 0, -5);
        long[] pictures = new long[6];
        Boundary.Call[] steps = {q -> q.order(1), q -> q.makes(1, 1, 0), q -> q.times(5, 0, 2), q -> q.reads(3), q -> q.order(0)};
        for (int n = 0; n < 5; n++) {
            pictures[n] = p.picture();
            steps[n].on(p);
        }
        pictures[5] = p.picture();
        for (int n = 4; n >= 0; n--) {
            due("the pictures are not alike", pictures[n] == pictures[n + 1] && n != 3 ? 1 : 0, 0);
            due("back()", p.back(), n);
            due("the state before the change " + n, p.picture(), pictures[n]);
        }
        due("operator 5", p.text(5), "x^12");
        due("polynomial 0", p.polynomial(0), "5@30");
        due("polynomial 1", p.polynomial(1), "-5@0");
        due("the order", p.told(4), 0);
        // a state that is not stored any more does not come again, and back() itself stores nothing
        Boundary.Probe q = changed(3);
        due("back()", q.back(), 2);
        due("sets()", q.sets(0, 0, 0, 9), 2);
        due("told(5)", q.told(5), 3);
        due("back()", q.back(), 2);
        due("the state", q.at(0, 0, 0), 2);
        due("back()", q.back(), 1);
        due("the state", q.at(0, 0, 0), 1);
        due("back()", q.back(), 0);
        due("the state", q.at(0, 0, 0), 0);
        due("back()", q.back(), NO);
        sentence(25, "The text and the counts of errors stay.");
        Boundary.Probe r = changed(2);
        r.typed("x+d");
        r.told(6);
        r.told(7);
        r.rest(0, 0, 2);
        r.kills(0, 0);
        r.basis(2);
        r.sets(0, 12, 0, 1);
        r.times(0, 0, 0);
        int[] told = {2, 2, 1, 3};
        for (int n = 2; n >= 0; n--) {
            due("back()", r.back(), n);
            for (int what = 0; what < 4; what++) {
                due("told(" + what + ") after back()", r.told(what), told[what]);
            }
        }
        due("the text", r.reads(4), 2);
        due("the text", r.text(4), "d+x");
    }

    private static void backAtTheEnds() {
        sentence(25, "Returns how many states are still stored");
        for (int n = 1; n <= 8; n++) {
            Boundary.Probe p = changed(n);
            for (int left = Math.min(n, 5) - 1; left >= 0; left--) {
                due("back() after " + n + " changes", p.back(), left);
                due("told(5)", p.told(5), left);
            }
        }
        sentence(25, "NO if there is none.");
        Boundary.refused("back() at first", BoundaryStatesTest::fresh, p -> p.back(), NO);
        Boundary.refused("back() after errors alone", () -> onlyErrors(), p -> p.back(), NO);
        for (int n = 1; n <= 7; n++) {
            int times = n;
            Boundary.refused("back() after " + n + " changes and as many back()", () -> allBack(times), p -> p.back(), NO);
        }
        Boundary.Probe p = allBack(6);
        due("it is refused", p.back(), NO);
        due("again", p.back(), NO);
        due("told(1)", p.told(1), 2);
        due("a change", p.sets(0, 0, 0, 8), 1);
        due("back()", p.back(), 0);
        due("the state", p.at(0, 0, 0), 1);
    }

    private static Boundary.Probe onlyErrors() {
        Boundary.Probe p = fresh();
        p.sets(6, 0, 0, 1);
        p.kills(0, 0);
        p.reads(0);
        p.type('x');
        p.clear();
        return p;
    }

    private static Boundary.Probe allBack(int times) {
        Boundary.Probe p = changed(times);
        p.type('x');
        for (int n = 0; n < Math.min(times, 5); n++) {
            p.back();
        }
        return p;
    }

    // ---- promise 26

    private static void told() {
        sentence(26, "Returns a number.");
        for (int what = 0; what <= 5; what++) {
            int w = what;
            Boundary.harmless("told(" + what + ") at first", BoundaryStatesTest::fresh, p -> p.told(w), 0);
            Boundary.harmless("told(" + what + ")", BoundaryStatesTest::dense, p -> p.told(w), new int[] {2, 2, 2, 5, 1, 5}[what]);
        }
        sentence(26, NUMBERS);
        Boundary.range("told(what)", Boundary::busy, (p, what) -> p.told(what), 0, 5);
        Boundary.range("told(what) at first", BoundaryStatesTest::fresh, (p, what) -> p.told(what), 0, 5);
        sentence(26, "BAD if what is out of range.");
        Boundary.outside("told(what)", BoundaryStatesTest::dense, (p, what) -> p.told(what), -1, -2, 6, 7, 8, MIN, MAX);
        Boundary.Probe p = fresh();
        for (int n = 1; n <= 5; n++) {
            due("told(6)", p.told(6), BAD);
            due("it is counted itself", p.told(0), n);
        }
        sentence(26, "Returns that number");
        Boundary.Probe q = fresh();
        for (int n = 1; n <= 120; n++) {
            q.type('x');
            due("the length of the text", q.told(3), n);
        }
        q.type('x');
        due("the length of the text", q.told(3), 120);
        q.clear();
        due("the length of the text", q.told(3), 0);
        for (int o : new int[] {0, 1, 1, 0, 1}) {
            q.order(o);
            due("the order", q.told(4), o);
        }
        q.order(2);
        due("the order", q.told(4), 1);
        q.back();
        due("the order", q.told(4), 0);
        for (int n = 0; n <= 8; n++) {
            due("the stored states", changed(n).told(5), Math.min(n, 5));
        }
    }

    /** Each call that is refused is counted once, under its own number. */
    private static void toldCounts() {
        sentence(26, NUMBERS);
        Boundary.Probe p = dense();
        int[] counts = {2, 2, 2};
        for (Named error : errors()) {
            due(error.name(), error.call().on(p), error.answer());
            counts[BAD - error.answer()]++;
            for (int k = 0; k < 3; k++) {
                due("told(" + k + ") after " + error.name(), p.told(k), counts[k]);
            }
        }
        for (Named look : looks()) {
            Boundary.Probe q = dense();
            look.call().on(q);
            due("told(0) + told(1) + told(2) after " + look.name(), q.told(0) + q.told(1) + q.told(2), 6);
        }
        for (Named change : changes()) {
            Boundary.Probe q = dense();
            change.call().on(q);
            due("told(0) + told(1) + told(2) after " + change.name(), q.told(0) + q.told(1) + q.told(2), 6);
        }
    }

    // ---- promise 27

    /** The checksum as the document tells it; several objects are asked, as one may not be asked so often. */
    private static long computed(Supplier<Boundary.Probe> maker) {
        long h = 2339;
        Boundary.Probe p = maker.get();
        for (int what = 0; what <= 5; what++) {
            h = 31 * h + p.told(what);
        }
        for (int s = 0; s < 6; s++) {
            p = maker.get();
            for (int what = 0; what <= 8; what++) {
                h = 31 * h + p.of(s, what);
            }
            for (int degree = 0; degree <= 12; degree++) {
                for (int j = 0; j <= degree; j++) {
                    h = 31 * h + p.at(s, degree - j, j);
                }
            }
        }
        p = maker.get();
        for (int f = 0; f < 2; f++) {
            for (int n = 0; n <= 30; n++) {
                h = 31 * h + p.rate(f, n);
            }
        }
        return h;
    }

    private static void digest() {
        sentence(27, "Computes a checksum.");
        Boundary.harmless("digest() at first", BoundaryStatesTest::fresh, p -> p.digest(), computed(BoundaryStatesTest::fresh));
        Boundary.harmless("digest()", BoundaryStatesTest::dense, p -> p.digest(), computed(BoundaryStatesTest::dense));
        sentence(27, "It starts with h = 2339, and for each number v, in the order below, sets h = 31 * h + v in long arithmetic, which wraps.");
        // a new object has six zeros, then for each operator 0, seven times NONE and 92 zeros, and then 62 zeros
        java.math.BigInteger h = java.math.BigInteger.valueOf(2339);
        for (int n = 0; n < 6 + 600 + 62; n++) {
            int of = n < 6 ? 0 : (n - 6) % 100;
            int v = n < 606 && of >= 1 && of <= 7 ? NONE : 0;
            h = h.multiply(java.math.BigInteger.valueOf(31)).add(java.math.BigInteger.valueOf(v));
        }
        due("digest() at first", fresh().digest(), h.longValue());
        due("it has wrapped", h.bitLength() > 64 ? 1 : 0, 1);
        sentence(27, "Returns the checksum.");
        List<Named> calls = changes();
        calls.addAll(looks());
        calls.addAll(errors());
        for (Named call : calls) {
            Supplier<Boundary.Probe> maker = () -> after(call);
            due("digest() after " + call.name(), maker.get().digest(), computed(maker));
        }
        Supplier<Boundary.Probe> back = () -> after(new Named("back()", p -> p.back(), 4));
        due("digest() after back()", back.get().digest(), computed(back));
        due("digest() twice", twice(), dense().digest());
    }

    private static Boundary.Probe after(Named call) {
        Boundary.Probe p = dense();
        call.call().on(p);
        return p;
    }

    private static long twice() {
        Boundary.Probe p = dense();
        p.digest();
        return p.digest();
    }

    private static long power31(int n) {
        long p = 1;
        for (int k = 0; k < n; k++) {
            p *= 31;
        }
        return p;
    }

    /** Each number stands at its own place. */
    private static void digestOfEachNumber() {
        sentence(27, ALL_NUMBERS);
        int numbers = 6 + 600 + 62;
        for (int s = 0; s < 6; s++) {
            int place = 6 + 100 * s + 9;
            for (int degree = 0; degree <= 12; degree++) {
                for (int j = 0; j <= degree; j++) {
                    // all of of() is as it was, but for the coefficient of the lead
                    Boundary.Probe p = fresh();
                    p.sets(s, degree - j, j, 7);
                    long before = p.digest();
                    p.sets(s, degree - j, j, -5003);
                    long lead = -5010 * power31(numbers - 1 - (6 + 100 * s + 8));
                    long stored = power31(numbers - 1 - 5);
                    due("digest() with (" + (degree - j) + ", " + j + ") of operator " + s, p.digest() - before,
                        lead + stored - 5010 * power31(numbers - 1 - place));
                    place++;
                }
            }
        }
        for (int f = 0; f < 2; f++) {
            for (int n = 0; n <= 30; n++) {
                Boundary.Probe p = fresh();
                long before = p.digest();
                p.puts(f, n, 5004);
                due("digest() with the power " + n + " of polynomial " + f, p.digest() - before,
                    power31(numbers - 1 - 5) - 5003 * power31(numbers - 1 - (606 + 31 * f + n)));
            }
        }
        Boundary.Call[] calls = {p -> p.told(6), p -> p.back(), p -> p.type('x')};
        int[] places = {0, 1, 3};
        for (int k = 0; k < calls.length; k++) {
            Boundary.Probe p = fresh();
            long before = p.digest();
            calls[k].on(p);
            due("digest() with told(" + places[k] + ")", p.digest() - before, power31(numbers - 1 - places[k]));
        }
        Boundary.Probe p = Boundary.with("x^12");
        long before = p.digest();
        p.times(0, 0, 0);
        due("digest() with told(2)", p.digest() - before, power31(numbers - 1 - 2));
        Boundary.Probe q = fresh();
        before = q.digest();
        q.order(1);
        due("digest() with told(4) and told(5)", q.digest() - before, power31(numbers - 1 - 4) + power31(numbers - 1 - 5));
    }
}
