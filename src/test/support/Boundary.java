import java.nio.file.Files;
import java.nio.file.Path;
import java.util.ArrayList;
import java.util.List;
import java.util.Set;
import java.util.TreeMap;
import java.util.TreeSet;
import java.util.function.Supplier;

/**
 * What the boundary tests share. A test names a sentence of the document and then shows that it holds; at the end it is
 * asked whether every sentence of its promises has been named, each with at least one check of its own.
 */
final class Boundary {
    static final int NONE = -20001, BAD = -20002, NO = -20003, FULL = -20004;
    static final int MAX = Integer.MAX_VALUE, MIN = Integer.MIN_VALUE;
    /** How many numbers follow told(5) in the digest. */
    private static final int BEHIND_TOLD = 6 * (9 + 91) + 2 * 31;
    private static final String DOCUMENT = "../shared/DOC.md";

    private static int wrong = 0;
    private static int checks = 0;
    private static int promise = -1;
    private static String sentence = "";
    /** For each promise its sentences with the number of checks that have been made for them. */
    private static final TreeMap<Integer, TreeMap<String, Integer>> named = new TreeMap<>();

    private Boundary() {
    }

    /** A call that is tried. */
    interface Call {
        long on(Probe p);
    }

    /** A call with one argument that is tried at the ends of its range. */
    interface CallWith {
        long on(Probe p, int argument);
    }

    /** An object that is never asked beyond its 512 calls, as its answers are free from there on. */
    static final class Probe {
        private final WeylWords words = new WeylWords();
        private int calls = 0;

        private WeylWords next() {
            calls++;
            if (calls == 513) {
                complain("the test itself makes more than 512 calls");
            }
            return words;
        }

        int calls() {
            return calls;
        }

        int sets(int s, int i, int j, int c) {
            return next().sets(s, i, j, c);
        }

        int at(int s, int i, int j) {
            return next().at(s, i, j);
        }

        int sums(int s, int t, int a, int u, int b) {
            return next().sums(s, t, a, u, b);
        }

        int times(int s, int t, int u) {
            return next().times(s, t, u);
        }

        int bracket(int s, int t, int u) {
            return next().bracket(s, t, u);
        }

        int power(int s, int t, int n) {
            return next().power(s, t, n);
        }

        int reversed(int s, int t) {
            return next().reversed(s, t);
        }

        int of(int s, int what) {
            return next().of(s, what);
        }

        int order(int o) {
            return next().order(o);
        }

        int puts(int f, int n, int c) {
            return next().puts(f, n, c);
        }

        int rate(int f, int n) {
            return next().rate(f, n);
        }

        int makes(int g, int s, int f) {
            return next().makes(g, s, f);
        }

        int kernel(int s, int n) {
            return next().kernel(s, n);
        }

        int kills(int s, int f) {
            return next().kills(s, f);
        }

        int rest(int s, int t, int set) {
            return next().rest(s, t, set);
        }

        int basis(int set) {
            return next().basis(set);
        }

        int based(int set, int k, int i, int j) {
            return next().based(set, k, i, j);
        }

        int stairs(int set, int n) {
            return next().stairs(set, n);
        }

        int within(int t, int set) {
            return next().within(t, set);
        }

        int type(int c) {
            return next().type(c);
        }

        int clear() {
            return next().clear();
        }

        int reads(int s) {
            return next().reads(s);
        }

        int shown(int s, int i) {
            return next().shown(s, i);
        }

        int back() {
            return next().back();
        }

        int told(int what) {
            return next().told(what);
        }

        long digest() {
            return next().digest();
        }

        /** Puts a text in the place of the one that is there. */
        Probe typed(String text) {
            clear();
            for (int k = 0; k < text.length(); k++) {
                type(text.charAt(k));
            }
            return this;
        }

        /** Sets an operator to what a text says. */
        Probe read(int s, String text) {
            typed(text);
            int answer = reads(s);
            if (answer < 0) {
                complain("the test itself reads '" + text + "', which answers " + answer);
            }
            return this;
        }

        /** An operator as a text. */
        String text(int s) {
            StringBuilder b = new StringBuilder();
            for (int c = shown(s, 0); c >= 0 && b.length() < 400; c = shown(s, b.length())) {
                b.append((char) c);
            }
            return b.toString();
        }

        /** A polynomial as its coefficients other than 0, by ascending power. */
        String polynomial(int f) {
            StringBuilder b = new StringBuilder();
            for (int n = 0; n <= 30; n++) {
                int c = rate(f, n);
                b.append(c == 0 ? "" : " " + c + "@" + n);
            }
            return b.toString().trim();
        }

        /** The digest without the counts of errors and the number of stored states: what the state itself adds. */
        long picture() {
            long h = digest();
            for (int what : new int[] {0, 1, 2, 5}) {
                h -= told(what) * power31(BEHIND_TOLD + 5 - what);
            }
            return h;
        }
    }

    private static long power31(int n) {
        long p = 1;
        for (int k = 0; k < n; k++) {
            p *= 31;
        }
        return p;
    }

    // ---- objects to try calls on

    /** An object whose operators 0, 1, .. are what the texts say. */
    static Probe with(String... texts) {
        Probe p = new Probe();
        for (int s = 0; s < texts.length; s++) {
            p.read(s, texts[s]);
        }
        return p;
    }

    /** An object with something in all of its parts, and one error of each kind. */
    static Probe busy() {
        Probe p = with("x*d-2", "d^3+x", "x^6*d^6", "x^4", "0", "5*x+3");
        p.told(6);
        p.rest(0, 0, 16);
        p.times(0, 2, 2);
        p.puts(0, 2, 5);
        p.puts(1, 30, -4);
        p.order(1);
        p.typed("x+7");
        return p;
    }

    // ---- checks

    private static void complain(String what) {
        wrong++;
        System.out.println("promise " + promise + ", '" + sentence + "': " + what);
    }

    static void due(String call, long got, long want) {
        count();
        if (got != want) {
            complain(call + " answered " + got + ", due is " + want);
        }
    }

    static void due(String call, String got, String want) {
        count();
        if (!got.equals(want)) {
            complain(call + " answered " + got + ", due is " + want);
        }
    }

    private static void count() {
        checks++;
        if (promise >= 0) {
            named.get(promise).merge(sentence, 1, Integer::sum);
        }
    }

    /** All that later calls show of an object but the counts; nothing can be asked of it any more then. */
    private static List<Long> later(Probe p) {
        List<Long> seen = new ArrayList<>();
        for (int what = 3; what <= 5; what++) {
            seen.add((long) p.told(what));
        }
        seen.add(p.picture());
        seen.addAll(storedStates(p));
        seen.add((long) p.reads(0));
        seen.add(p.picture());
        seen.add((long) p.clear());
        return seen;
    }

    /** What back() answers and brings back, until there is nothing left. */
    private static List<Long> storedStates(Probe p) {
        List<Long> seen = new ArrayList<>();
        for (int answer = p.back(); answer >= 0 && seen.size() < 20; answer = p.back()) {
            seen.add((long) answer);
            seen.add(p.picture());
        }
        return seen;
    }

    /** A call that returns an error: it is counted, and changes nothing. */
    static void refused(String name, Supplier<Probe> maker, Call call, int code) {
        Probe tried = maker.get();
        Probe untried = maker.get();
        due(name, call.on(tried), code);
        for (int k = 0; k < 3; k++) {
            due("told(" + k + ") after " + name, tried.told(k), untried.told(k) + (BAD - code == k ? 1 : 0));
        }
        due("what later calls show after " + name, later(tried).toString(), later(untried).toString());
    }

    /** A call that changes nothing and counts nothing: one that only tells something, or meets a fault in the text. */
    static void harmless(String name, Supplier<Probe> maker, Call call, long answer) {
        Probe tried = maker.get();
        Probe untried = maker.get();
        due(name, call.on(tried), answer);
        for (int k = 0; k < 3; k++) {
            due("told(" + k + ") after " + name, tried.told(k), untried.told(k));
        }
        due("what later calls show after " + name, later(tried).toString(), later(untried).toString());
    }

    /** A call that is marked Change and returns no error: the state before it is stored, and no error is counted. */
    static void changing(String name, Supplier<Probe> maker, Call call, long answer) {
        Probe tried = maker.get();
        Probe untried = maker.get();
        int stored = untried.told(5);
        int most = Math.min(5, stored + 1);
        due(name, call.on(tried), answer);
        due("told(5) after " + name, tried.told(5), most);
        for (int k = 0; k <= 3; k++) {
            due("told(" + k + ") after " + name, tried.told(k), untried.told(k));
        }
        List<Long> states = new ArrayList<>();
        states.add(most - 1L);
        states.add(untried.picture());
        List<Long> older = storedStates(untried);
        for (int k = 0; k + 1 < older.size() && k + 2 < 2 * most; k += 2) {
            states.add(most - 2L - k / 2);
            states.add(older.get(k + 1));
        }
        due("the stored states after " + name, storedStates(tried).toString(), states.toString());
        Probe again = maker.get();
        call.on(again);
        due("the text after " + name, readText(again), readText(maker.get()));
    }

    /** What the text reads as, by order 0. */
    private static String readText(Probe p) {
        p.order(0);
        int answer = p.reads(3);
        return answer + ": " + p.text(3);
    }

    /** An argument's range: its ends are no errors; what lies right outside of it, and far outside, is BAD. */
    static void range(String name, Supplier<Probe> maker, CallWith call, int from, int to) {
        for (int end : new int[] {from, to}) {
            Probe p = maker.get();
            int before = p.told(0);
            long answer = call.on(p, end);
            due(name + " with " + end + ": BAD is " + answer, answer == BAD ? 1 : 0, 0);
            due("told(0) after " + name + " with " + end, p.told(0), before);
        }
        outside(name, maker, call, from - 1, MIN);
        if (to != MAX) {
            outside(name, maker, call, to + 1, MAX);
        }
    }

    /** Arguments that are BAD. */
    static void outside(String name, Supplier<Probe> maker, CallWith call, int... arguments) {
        for (int argument : arguments) {
            refused(name + " with " + argument, maker, p -> call.on(p, argument), BAD);
        }
    }

    // ---- sentences

    /** The checks that follow are for a sentence of a promise, or for one that stands before the promises if the number is 0. */
    static void sentence(int number, String text) {
        promise = number;
        sentence = text;
        named.computeIfAbsent(number, k -> new TreeMap<>()).putIfAbsent(text, 0);
    }

    /** Looks whether the sentences of some promises have all been named, and ends the test. */
    static void finish(int first, int last) throws Exception {
        promise = -1;
        for (TreeMap<String, Integer> sentences : named.values()) {
            for (String text : sentences.keySet()) {
                if (sentences.get(text) == 0) {
                    complain("no check for '" + text + "'");
                }
            }
        }
        if (Files.exists(Path.of(DOCUMENT))) {
            compareWithDocument(first, last);
        }
        System.out.println(checks + " checks at the boundaries of the promises " + first + " to " + last + ", " + wrong + " wrong");
        if (wrong != 0) {
            System.exit(1);
        }
    }

    private static void compareWithDocument(int first, int last) throws Exception {
        String document = Files.readString(Path.of(DOCUMENT)).replace("`", "");
        String[] parts = document.split("(?m)^## ");
        String beforePromises = plain(document.substring(0, Math.max(0, document.indexOf("## Promise "))));
        for (String text : namedOf(0)) {
            if (!beforePromises.contains(text)) {
                complain("the document does not say, before its promises, '" + text + "'");
            }
        }
        for (String part : parts) {
            int line = part.indexOf('\n');
            String heading = line < 0 ? part : part.substring(0, line);
            if (heading.startsWith("Promise ")) {
                int number = Integer.parseInt(heading.substring(8, heading.indexOf(':')));
                if (number >= first && number <= last) {
                    compareSentences(number, sentencesOf(part));
                }
            }
        }
    }

    private static Set<String> namedOf(int number) {
        return named.containsKey(number) ? named.get(number).keySet() : new TreeSet<>();
    }

    private static void compareSentences(int number, Set<String> written) {
        for (String text : written) {
            if (!namedOf(number).contains(text)) {
                complain("promise " + number + " says, untested: '" + text + "'");
            }
        }
        for (String text : namedOf(number)) {
            if (!written.contains(text)) {
                complain("promise " + number + " does not say '" + text + "'");
            }
        }
    }

    private static String plain(String text) {
        return text.replaceAll("\\s+", " ").trim();
    }

    /**
     * The sentences of a promise, with the parameters as one each. Its last paragraph, which tells what is returned, is
     * divided at the semicolons, as each error stands between two of them.
     */
    private static Set<String> sentencesOf(String part) {
        Set<String> sentences = new TreeSet<>();
        String[] paragraphs = part.split("\n\\s*\n");
        for (int k = 2; k < paragraphs.length; k++) {
            String paragraph = paragraphs[k].trim();
            if (paragraph.startsWith("- ")) {
                for (String line : paragraph.split("\n")) {
                    sentences.add(plain(line.substring(2)));
                }
            } else if (!paragraph.isEmpty() && !paragraph.startsWith("----")) {
                String between = k == paragraphs.length - 1 ? ";\\s" : "(?<=\\.|\\.\\))\\s(?=[A-Z(])";
                for (String sentence : paragraph.split(between)) {
                    sentences.add(plain(sentence));
                }
            }
        }
        return sentences;
    }
}
