import java.util.function.Supplier;

/** The boundary cases of the promises 21 to 24, and of what the document says of the text, of expressions and faults. */
public final class BoundaryTextsTest {
    private static final int NONE = Boundary.NONE, BAD = Boundary.BAD, FULL = Boundary.FULL;
    private static final int MAX = Boundary.MAX, MIN = Boundary.MIN;
    private static final String LENGTHS = "A number has 1 to 4 digits; an exponent has 1 or 2 digits and is at most 12 (the power 0 is the operator 1).";
    private static final String FAULT = "The fault of a text that is no expression is the position (from 0) of the first byte that cannot stand there: "
        + "this is also the fifth digit of a number, the third digit of an exponent, and a parenthesis that is opened while 8 are open; "
        + "for an exponent of one or two digits that is above 12 it is its first digit.";
    private static final String FULL_IF = "FULL if times() or power() would return FULL for one of the products or powers in it.";
    private static final String PARTS = "Then there are the absolute value of the coefficient, unless it is 1 and the word is not (0, 0); x^i; and d^j, "
        + "where ^ and the exponent are left out if it is 1, and the whole part if it is 0; * stands between these parts.";

    private static void sentence(int promise, String text) {
        Boundary.sentence(promise, text);
    }

    private static void due(String call, long got, long want) {
        Boundary.due(call, got, want);
    }

    private static void due(String call, String got, String want) {
        Boundary.due(call, got, want);
    }

    public static void main(String[] args) throws Exception {
        buffer();
        bytesAtTheirPlaces();
        numbers();
        exponents();
        products();
        parentheses();
        spaces();
        faults();
        endsTooEarly();
        type();
        typeFull();
        clear();
        reads();
        readsRefused();
        readsFullProducts();
        readsFullPowers();
        shown();
        shownParts();
        shownPositions();
        Boundary.finish(21, 24);
    }

    private static Boundary.Probe fresh() {
        return new Boundary.Probe();
    }

    /** An object with something in its operators and stored states, and a text. */
    private static Boundary.Probe typed(String text) {
        return Boundary.with("x*d-2", "d^3").typed(text);
    }

    private static int answer(String text) {
        return fresh().typed(text).reads(0);
    }

    /** What a text reads and shows as. */
    private static String normal(String text) {
        Boundary.Probe p = fresh().typed(text);
        int answer = p.reads(0);
        return answer < 0 ? "" + answer : p.text(0);
    }

    // ---- the text and the grammar

    private static void buffer() {
        sentence(0, "There is a text buffer with at most 120 bytes.");
        Boundary.Probe p = fresh();
        for (int n = 1; n <= 120; n++) {
            due("the byte " + n, p.type(n == 120 ? 'x' : ' '), n);
        }
        due("the byte 121", p.type('x'), FULL);
        due("the length", p.told(3), 120);
        due("the last byte is read", p.reads(0), 1);
        due("the text", p.text(0), "x");
        due("120 bytes that are no expression", answer("x+".repeat(60)), -30120);
        due("120 bytes whose last one is at fault", answer(" ".repeat(118) + "xx"), -30119);
        due("119 bytes", answer("-" + "x+".repeat(58) + "x "), 1);
        due("60 terms", normal("d+".repeat(59) + "d"), "60*d");
    }

    private static final String DIGITS = "0123456789";
    /**
     * What may follow the beginning of a text: the bytes that make it an expression; those after which it ends too early;
     * the digits that make an exponent of two digits too great, so that its first digit is at fault.
     */
    private static final String[][] FOLLOWERS = {
        {"", DIGITS + "xd", "-( ", ""}, {" ", DIGITS + "xd", "-( ", ""}, {"-", DIGITS + "xd", "( ", ""}, {"- ", DIGITS + "xd", "( ", ""},
        {"(", "", DIGITS + "xd-( ", ""}, {"( ", "", DIGITS + "xd-( ", ""}, {"(-", "", DIGITS + "xd( ", ""}, {"-(", "", DIGITS + "xd-( ", ""},
        {"x", " ", "+-*^", ""}, {"d", " ", "+-*^", ""}, {"x ", " ", "+-*^", ""}, {"7", DIGITS + " ", "+-*^", ""}, {"0", DIGITS + " ", "+-*^", ""},
        {"123", DIGITS + " ", "+-*^", ""}, {"1234", " ", "+-*^", ""}, {"0000", " ", "+-*^", ""}, {"12 ", " ", "+-*^", ""},
        {"x*d", " ", "+-*^", ""}, {"x+7", DIGITS + " ", "+-*^", ""}, {"x^", DIGITS, " ", ""}, {"x^ ", DIGITS, " ", ""}, {"7^", DIGITS, " ", ""},
        {"x^0", DIGITS + " ", "+-*", ""}, {"x^1", "012 ", "+-*", "3456789"}, {"x^2", " ", "+-*", DIGITS}, {"x^9", " ", "+-*", DIGITS},
        {"x^12", " ", "+-*", ""}, {"x^00", " ", "+-*", ""}, {"x^01", " ", "+-*", ""}, {"x^1 ", " ", "+-*", ""}, {"x^12 ", " ", "+-*", ""},
        {"x+", DIGITS + "xd", "( ", ""}, {"x-", DIGITS + "xd", "( ", ""}, {"x*", DIGITS + "xd", "( ", ""}, {"x^2+", DIGITS + "xd", "( ", ""},
        {"x + ", DIGITS + "xd", "( ", ""}, {"x - ", DIGITS + "xd", "( ", ""}, {"x * ", DIGITS + "xd", "( ", ""},
        {"(x", ")", "+-*^ ", ""}, {"(7", ")", DIGITS + "+-*^ ", ""}, {"(1234", ")", "+-*^ ", ""}, {"(x^2", ")", "+-* ", DIGITS},
        {"(x^12", ")", "+-* ", ""}, {"(x^", "", DIGITS + " ", ""}, {"(x+", "", DIGITS + "xd( ", ""}, {"(x ", ")", "+-*^ ", ""},
        {"(x)", " ", "+-*^", ""}, {"(x) ", " ", "+-*^", ""}, {"(x)^", DIGITS, " ", ""}, {"(x)^2", " ", "+-*", DIGITS}, {"(x)*", DIGITS + "xd", "( ", ""},
        {"((x)", ")", "+-*^ ", ""}, {"((x))", " ", "+-*^", ""}, {"(x)+", DIGITS + "xd", "( ", ""},
        {"(((((((", "", DIGITS + "xd-( ", ""}, {"((((((((", "", DIGITS + "xd- ", ""}, {"(((((((( ", "", DIGITS + "xd- ", ""},
        {"((((((((-", "", DIGITS + "xd ", ""}, {"((((((((x", "", "+-*^) ", ""}, {"((((((((x*", "", DIGITS + "xd ", ""},
        {"((((((((x+", "", DIGITS + "xd ", ""}, {"((((((((x)", "", "+-*^) ", ""}, {"((((((((x)*", "", DIGITS + "xd( ", ""},
        {"((((((((x))))))))", " ", "+-*^", ""}, {"((((((((x))))))))*", DIGITS + "xd", "( ", ""}, {"((((((((x))))))))-((((((((", "", DIGITS + "xd- ", ""}};

    private static void bytesAtTheirPlaces() {
        for (String[] f : FOLLOWERS) {
            int length = f[0].length();
            for (int c = 0; c < 128; c++) {
                Boundary.Probe p = fresh().typed(f[0]);
                p.type(c);
                int got = p.reads(0);
                String name = "reads() of '" + f[0] + "' and byte " + c;
                sentence(0, f[1].indexOf(c) >= 0 || f[2].indexOf(c) >= 0 ? "An expression has this grammar:" : FAULT);
                if (f[1].indexOf(c) >= 0) {
                    due(name + " is an expression", got >= 0 ? 1 : 0, 1);
                } else if (f[2].indexOf(c) >= 0) {
                    due(name, got, -30000 - (length + 1));
                } else if (f[3].indexOf(c) >= 0) {
                    due(name, got, -30000 - (length - 1));
                } else {
                    due(name, got, -30000 - length);
                }
            }
        }
    }

    private static void numbers() {
        sentence(0, LENGTHS);
        String[][] numbers = {{"0", "0"}, {"1", "1"}, {"9", "9"}, {"10", "10"}, {"99", "99"}, {"100", "100"}, {"999", "999"}, {"1000", "1000"},
            {"5002", "5002"}, {"5003", "5003"}, {"5004", "-5003"}, {"5005", "-5002"}, {"9998", "-9"}, {"9999", "-8"}, {"-9999", "8"},
            {"-5003", "-5003"}, {"-5004", "5003"}, {"00", "0"}, {"0000", "0"}, {"01", "1"}, {"0001", "1"}, {"0010", "10"}, {"0*9999+1", "1"},
            {"9999+8", "0"}, {"5003+5004", "0"}, {"9999*9999", "64"}};
        for (String[] n : numbers) {
            due("the number " + n[0], normal(n[0]), n[1]);
        }
        for (String digits : new String[] {"00000", "00001", "10000", "10007", "12345", "99999", "123456", "0123456789"}) {
            due("the digits " + digits, answer(digits), -30004);
            due("the digits " + digits + " after x*", answer("x*" + digits), -30006);
            due("the digits " + digits + " after -(", answer("-(" + digits), -30006);
            due("4 of the digits " + digits, answer(digits.substring(0, 4)) >= 0 ? 1 : 0, 1);
        }
    }

    private static void exponents() {
        sentence(0, LENGTHS);
        for (int n = 0; n <= 99; n++) {
            String two = n < 10 ? "0" + n : "" + n;
            String power = n == 0 ? "1" : n == 1 ? "x" : "x^" + n;
            due("x^" + n, normal("x^" + n), n <= 12 ? power : "-30002");
            due("x^" + two, normal("x^" + two), n <= 12 ? power : "-30002");
            due("x^ " + two, normal("x^ " + two), n <= 12 ? power : "-30003");
            due("2*(x)^" + two + "-3", answer("2*(x)^" + two + "-3"), n > 12 ? -30006 : n == 0 ? 1 : 2);
            // a third digit is at fault, whatever the number is
            due("x^0" + two, answer("x^0" + two), -30004);
            due("x^" + two + "0", answer("x^" + two + "0"), -30004);
            due("x^" + two + " 0", answer("x^" + two + " 0"), n > 12 ? -30002 : -30005);
        }
        for (String base : new String[] {"0", "7", "x", "d", "(x-x)", "(x*d^2-5)", "(x^12)", "9999", "(d^12+1)"}) {
            due(base + "^0", normal(base + "^0"), "1");
            due(base + "^00", normal(base + "^00"), "1");
            due(base + "^01", normal(base + "^01"), normal(base));
        }
        due("0^12", normal("0^12"), "0");
        due("2^12", normal("2^12"), "4096");
        due("(-1)^11", normal("(-1)^11"), "-1");
        due("(x-d)^2", normal("(x-d)^2"), "d^2-2*x*d+x^2-1");
    }

    private static void products() {
        sentence(0, "Products are formed from left to right.");
        String[][] texts = {{"x*d", "x*d"}, {"d*x", "x*d+1"}, {"x*d*x", "x^2*d+x"}, {"d*x*d", "x*d^2+d"}, {"d*d*x", "x*d^2+2*d"}, {"d*x^2", "x^2*d+2*x"},
            {"(d*x)^2", "x^2*d^2+3*x*d+1"}, {"d^2*x", "x*d^2+2*d"}, {"x*(d-1)*x", "x^2*d-x^2+x"}, {"(x+d)*(x-d)", "-d^2+x^2+1"},
            {"(x-d)*(x+d)", "-d^2+x^2-1"}, {"2*3*x*4", "24*x"}, {"-x*d", "-x*d"}, {"-x^2", "-x^2"}, {"(-x)^2", "x^2"}, {"-2^2", "-4"},
            {"1-2-3", "-4"}, {"1-2+3", "2"}, {"1-(2+3)", "-4"}, {"-1-1", "-2"}, {"-(1-1)", "0"}, {"x-d*x", "-x*d+x-1"}, {"2*x+3*x", "5*x"},
            {"0*x^12*d^12", "0"}, {"x^12*(d^12*0)", "0"}, {"(x-x)*d*x^12", "0"}, {"x^12*d^12*0", "" + FULL}, {"x^12*d*0", "" + FULL},
            {"0*(x^12*d)", "" + FULL}, {"x^12*0*d^12", "0"}};
        for (String[] text : texts) {
            due(text[0], normal(text[0]), text[1]);
        }
    }

    private static void parentheses() {
        sentence(0, "Up to 8 parentheses may be open at the same time.");
        for (int n = 0; n <= 20; n++) {
            String open = "(".repeat(n), closed = ")".repeat(n);
            due(n + " open", normal(open + "x-2" + closed), n <= 8 ? "x-2" : "-30008");
            due("(d) and " + n + " open", normal("(d)*" + open + "x" + closed), n <= 8 ? "x*d+1" : "-30012");
            due("d+" + n + " open", normal("d+" + open + "x" + closed), n <= 8 ? "d+x" : "-30010");
            due("( and, later, " + n + " open", normal("(d+" + open + "x" + closed + ")"), n <= 7 ? "d+x" : "-30010");
            due(n + " open, with a sign in each", normal("(-".repeat(n) + "x" + closed), n > 8 ? "-30016" : n % 2 == 0 ? "x" : "-x");
            due(n + " open, with a power of each", normal(open + "x" + ")^1".repeat(n)), n <= 8 ? "x" : "-30008");
            due(n + " open, and one closed too much", answer(open + "x" + closed + ")"), -30000 - (n <= 8 ? 2 * n + 1 : 8));
            due(n + " open, and one not closed", answer("(" + open + "x" + closed), -30000 - (n <= 7 ? 2 * n + 2 : 8));
        }
        String eight = "((((((((1))))))))";
        due("8 open, again and again", normal(String.join("+", eight, eight, eight, eight, eight, eight)), "6");
        due("closed and opened again", normal("((((((((1)+(1))+(1))+(1))+(1))+(1))+(1))+(1))"), "8");
        due("30 parentheses one after the other", normal("(1)+".repeat(29) + "(1)"), "30");
        due("a ninth one behind one that is closed", answer("((((((((x)+(("), -30012);
    }

    private static void spaces() {
        sentence(0, "Spaces (byte 32) may stand anywhere except within a number or an exponent.");
        for (String text : new String[] {"-12*(x+d)^10-x*3456", "((d-7)^2*x^12-d^09)", "-(-(x))*0001+10^10"}) {
            String plain = normal(text);
            for (int at = 0; at <= text.length(); at++) {
                boolean within = at > 0 && at < text.length() && Character.isDigit(text.charAt(at - 1)) && Character.isDigit(text.charAt(at));
                for (int n = 1; n <= 3; n++) {
                    String spaced = text.substring(0, at) + " ".repeat(n) + text.substring(at);
                    due("'" + spaced + "'", normal(spaced), within ? "" + (-30000 - at - n) : plain);
                }
            }
        }
        due("119 spaces and x", normal(" ".repeat(119) + "x"), "x");
        due("x and 119 spaces", normal("x" + " ".repeat(119)), "x");
        due("120 spaces", answer(" ".repeat(120)), -30120);
        for (int c = 0; c < 128; c++) {
            if (c != ' ') {
                due("byte " + c + " is no space", answer("x" + (char) c + "+x") >= 0 ? 1 : 0, 0);
            }
        }
    }

    /** Texts, each with its fault. */
    private static final Object[][] FAULTS = {{"+x", 0}, {"*x", 0}, {"^2", 0}, {")", 0}, {"X", 0}, {"D", 0}, {"y", 0}, {".", 0}, {"\u0000", 0},
        {"\u007f", 0}, {"\t", 0}, {"--x", 1}, {"-+x", 1}, {"-)", 1}, {"-*x", 1}, {"xd", 1}, {"xx", 1}, {"x2", 1}, {"2x", 1}, {"x(d)", 1}, {"x)", 1}, {"()", 1},
        {"(+x)", 1}, {"(*x)", 1}, {"x d", 2}, {"x 2", 2}, {"2 x", 2}, {"x+-d", 2}, {"x--d", 2}, {"x*-d", 2}, {"x**d", 2}, {"x+*d", 2}, {"x++d", 2},
        {"x^-1", 2}, {"x^x", 2}, {"x^(2)", 2}, {"x^^2", 2}, {"x^+2", 2}, {"x^13", 2}, {"x^99", 2}, {"x^13x", 2}, {"x^ 13", 3}, {"x^2^3", 3}, {"x^2x", 3},
        {"x^2(", 3}, {"x^2)", 3}, {"x^2 3", 4}, {"x^1 2", 4}, {"x^123", 4}, {"x^130", 4}, {"x^999", 4}, {"x^0000", 4}, {"12345", 4}, {"1 2345", 2},
        {"12 345", 3}, {"(x)(d)", 3}, {"(x)x", 3}, {"(x)2", 3}, {"(x+)", 3}, {"(x-)", 3}, {"(x*)", 3}, {"(x^)", 3}, {"(x)^2^3", 5}, {"((x)", 4}, {"(x))", 3},
        {"x^12*d*", 7}, {"x^12*d)", 6}, {"x+12345", 6}, {"x+d^77", 4}, {"(((((((((", 8}, {"((((((((x)*((", 12}, {"x^14+(((((((((", 2},
        {"12345^99", 4}, {"x^99+12345", 2}, {"(12345", 5}, {"x+\u0001", 2}};

    private static void faults() {
        sentence(0, FAULT);
        for (Object[] f : FAULTS) {
            String text = (String) f[0];
            due("reads() of '" + text + "'", answer(text), -30000 - (Integer) f[1]);
            due("reads() of '   " + text + "'", answer("   " + text), -30003 - (Integer) f[1]);
        }
    }

    private static void endsTooEarly() {
        sentence(0, "If the text ends too early (an empty one, too), the fault is its length.");
        due("an empty text", fresh().reads(0), -30000);
        due("a text that has been emptied", typed("").reads(0), -30000);
        for (int n = 1; n <= 120; n++) {
            due(n + " spaces", answer(" ".repeat(n)), -30000 - n);
        }
        String text = "-(x^11+3* (d-1) ^2-((2)))*x-1234 ";
        for (int n = 0; n <= text.length(); n++) {
            String begin = text.substring(0, n);
            String trimmed = begin.trim();
            int open = begin.replaceAll("[^(]", "").length() - begin.replaceAll("[^)]", "").length();
            boolean whole = open == 0 && !trimmed.isEmpty() && "xd0123456789)".indexOf(trimmed.charAt(trimmed.length() - 1)) >= 0;
            int answer = answer(begin);
            due("reads() of '" + begin + "'", whole && answer >= 0 ? 0 : answer, whole ? 0 : -30000 - n);
        }
        for (String ending : new String[] {"-", "x+", "x-", "x*", "x^", "(", "(x", "(x+", "((x)", "(x^2", "x+(", "(-", "x^ ", "x+ ", "( ", "((((((((x)))))))"}) {
            due("reads() of '" + ending + "'", answer(ending), -30000 - ending.length());
        }
    }

    // ---- promises 21 and 22

    private static void type() {
        sentence(21, "Appends a byte to the text.");
        due("x and d in their order", normal("x*d"), "x*d");
        due("d and x in their order", normal("d*x"), "x*d+1");
        Boundary.Probe p = typed("x");
        long before = p.digest();
        int stored = p.told(5);
        p.type('^');
        due("no state is stored", p.told(5), stored);
        p.type('2');
        p.back();
        due("a text is not undone", p.told(3), 3);
        due("a text is not undone", p.reads(4), 1);
        due("it is x^2", p.text(4), "x^2");
        Boundary.Probe q = typed("x");
        due("the same calls", q.digest(), before);
        q.type('+');
        due("operator 0", q.text(0), "x*d-2");
        due("the order", q.told(4), 0);
        due("the errors", q.told(0) + q.told(1) + q.told(2), 0);
        sentence(21, "c: the byte, 0 to 127");
        Boundary.range("type(c)", () -> typed("x"), (r, c) -> r.type(c), 0, 127);
        for (int c = 0; c < 128; c++) {
            Boundary.Probe r = typed("x+");
            due("type(" + c + ")", r.type(c), 3);
            due("reads() with byte " + c, r.reads(5), c == 'x' ? 1 : c >= '1' && c <= '9' || c == 'd' ? 2 : c == '0' ? 1 : c == '(' || c == ' ' ? -30003 : -30002);
        }
        sentence(21, "Returns the length of the text");
        Boundary.Probe r = fresh();
        for (int n = 1; n <= 120; n++) {
            due("the byte " + n, r.type('x'), n);
            due("told(3)", r.told(3), n);
        }
    }

    private static void typeFull() {
        sentence(21, "BAD if c is out of range");
        Supplier<Boundary.Probe> whole = () -> typed("-" + " ".repeat(117) + "7 ");
        for (int c : new int[] {-1, 128, 129, 255, 256, 256 + 'x', MIN, MAX, 'x' - 256, -128}) {
            Boundary.refused("type(" + c + ")", () -> typed("x"), p -> p.type(c), BAD);
            Boundary.refused("type(" + c + ") at first", BoundaryTextsTest::fresh, p -> p.type(c), BAD);
            Boundary.refused("type(" + c + ") behind 120 bytes: BAD goes before FULL", whole, p -> p.type(c), BAD);
        }
        sentence(21, "FULL if the text has 120 bytes.");
        for (int c : new int[] {0, ' ', '7', 'x', 127}) {
            Boundary.refused("type(" + c + ") behind 120 bytes", whole, p -> p.type(c), FULL);
            Boundary.Probe p = typed(" ".repeat(119));
            due("type(" + c + ") behind 119 bytes", p.type(c), 120);
            due("told(2)", p.told(2), 0);
            due("once more", p.type(c), FULL);
            due("and again", p.type(c), FULL);
            due("told(2)", p.told(2), 2);
            due("told(3)", p.told(3), 120);
            due("clear()", p.clear(), 120);
            due("there is room again", p.type(c), 1);
        }
    }

    private static void clear() {
        sentence(22, "Empties the text.");
        Boundary.Probe p = typed("x+d");
        long before = p.picture();
        p.clear();
        due("told(3)", p.told(3), 0);
        due("an empty text", p.reads(0), -30000);
        p.typed("x+d");
        due("all else is as it was", p.picture(), before);
        due("the stored states", p.told(5), 2);
        p.clear();
        p.type('d');
        due("nothing of the old text", p.reads(4), 1);
        due("it is d", p.text(4), "d");
        p.clear();
        p.back();
        due("back() brings no text", p.told(3), 0);
        Boundary.harmless("clear() of an empty text", () -> typed(""), q -> q.clear(), 0);
        Boundary.harmless("clear() at first", BoundaryTextsTest::fresh, q -> q.clear(), 0);
        sentence(22, "Returns the length that it had.");
        for (int n = 0; n <= 120; n++) {
            Boundary.Probe q = typed("7".repeat(n));
            due("clear() of " + n + " bytes", q.clear(), n);
            due("clear() again", q.clear(), 0);
        }
        Boundary.Probe full = typed("7".repeat(120));
        full.type('7');
        full.type(128);
        due("clear() after refused bytes", full.clear(), 120);
    }

    // ---- promise 23

    private static void reads() {
        sentence(23, "Sets operator s to the expression in the text, which stays.");
        Boundary.Probe p = typed("5*d*x-3");
        for (int s = 0; s < 6; s++) {
            due("reads(" + s + ")", p.reads(s), 2);
            due("operator " + s, p.text(s), "5*x*d+2");
            due("the text stays", p.told(3), 7);
            due("the next operator", s == 5 ? 0 : p.of(s + 1, 0), s == 5 ? 0 : s == 0 ? 1 : 0);
        }
        p.type('*');
        p.type('x');
        due("more of it", p.reads(0), 3);
        due("more of it", p.text(0), "5*x*d-3*x+5");
        sentence(23, "Change.");
        Boundary.changing("reads(2)", () -> typed("x-1"), q -> q.reads(2), 2);
        Boundary.changing("reads(0), which alters nothing", () -> typed("x*d-2"), q -> q.reads(0), 2);
        Boundary.changing("reads(5) of 0, which alters nothing", () -> typed("x-x"), q -> q.reads(5), 0);
        Boundary.changing("reads(5)", Boundary::busy, q -> q.reads(5), 2);
        sentence(23, "s: the operator that is replaced, 0 to 5");
        Boundary.range("reads(s)", () -> typed("x+7"), (q, s) -> q.reads(s), 0, 5);
        sentence(23, "Returns the number of terms of the result");
        String[] texts = {"0", "x-x", "7", "x", "x+x", "x+d", "(x+d)^12", "(x-1)^12", "d^6*x^6", "x*d-d*x", "x^12-d^12+x-d+1", "9999+8", "5003*x+5004*x"};
        int[] terms = {0, 0, 1, 1, 1, 2, 49, 13, 7, 1, 5, 0, 0};
        for (int n = 0; n < texts.length; n++) {
            due("reads() of " + texts[n], answer(texts[n]), terms[n]);
        }
    }

    private static void readsRefused() {
        sentence(23, "BAD if there is no such operator");
        for (String text : new String[] {"x+d", "", "x+", "x^12*d", "12345", "((((((((("}) {
            for (int s : new int[] {-1, 6, MIN, MAX}) {
                Boundary.refused("reads(" + s + ") of '" + text + "'", () -> typed(text), p -> p.reads(s), BAD);
            }
        }
        Boundary.refused("reads(6) at first", BoundaryTextsTest::fresh, p -> p.reads(6), BAD);
        sentence(23, "-30000 minus the fault if the text is no expression (nothing is changed or counted then)");
        Boundary.harmless("reads(0) at first", BoundaryTextsTest::fresh, p -> p.reads(0), -30000);
        for (Object[] f : FAULTS) {
            Boundary.harmless("reads(1) of '" + f[0] + "'", () -> typed((String) f[0]), p -> p.reads(1), -30000 - (Integer) f[1]);
        }
        Boundary.harmless("120 bytes", () -> typed("x*".repeat(60)), p -> p.reads(0), -30120);
        Boundary.harmless("a fault behind what is FULL", () -> typed("x^12*d+"), p -> p.reads(0), -30007);
        Boundary.harmless("a fault behind what is FULL", () -> typed("(x^7)^2)"), p -> p.reads(0), -30007);
        Boundary.harmless("a fault before what is FULL", () -> typed("++x^12*d"), p -> p.reads(0), -30000);
        Boundary.Probe p = typed("x+");
        for (int n = 0; n < 10; n++) {
            due("again and again", p.reads(0), -30002);
        }
        due("the stored states", p.told(5), 2);
        due("the errors", p.told(0) + p.told(1) + p.told(2), 0);
        p.type('d');
        due("the text goes on", p.reads(0), 2);
    }

    private static void readsFullProducts() {
        sentence(23, FULL_IF);
        for (int a = 0; a <= 12; a++) {
            for (int b = 0; b <= 12; b++) {
                String[] texts = {"x^" + a + "*d^" + b, "d^" + b + "*x^" + a, "(x^" + a + "+1)*(d^" + b + "-1)", "5*x^" + a + "*1*d^" + b, "x-x+(d^" + b + ")*x^" + a};
                for (String text : texts) {
                    if (a + b > 12) {
                        Boundary.refused("reads(0) of " + text, () -> typed(text), p -> p.reads(0), FULL);
                    } else {
                        Boundary.Probe p = typed(text);
                        due("reads(0) of " + text + " is no error", p.reads(0) >= 0 ? 1 : 0, 1);
                        due("told(2)", p.told(2), 0);
                    }
                }
            }
        }
        due("12 factors", normal("x*x*x*x*x*x*d*d*d*d*d*d"), "x^6*d^6");
        due("13 factors", answer("x*x*x*x*x*x*d*d*d*d*d*d*d"), FULL);
        due("12 factors in parentheses", normal("((x*x*x)*(x*x*x))*((x*x*x)*(x*x*x))"), "x^12");
        due("13 factors in parentheses", answer("((x*x*x)*(x*x*x))*((x*x*x)*(x*x*x*x))"), FULL);
        due("numbers have degree 0", normal("7*x^12*3*1^12"), "21*x^12");
        due("sums are never FULL", normal("x^12+d^12+x^12"), "d^12+2*x^12");
        due("what cancels out", answer("x^12*d-x^12*d"), FULL);
        due("what cancels out within", answer("(x^7-x^7+d)*d^12"), FULL);
        due("0 behind it", answer("x^12*x*0"), FULL);
        due("0 before it", normal("0*x^12*x"), "0");
        due("0 before it in a parenthesis", answer("0*(x^12*x)"), FULL);
        due("a factor that has become 0", normal("(x^12-x^12)*x^12*x^12"), "0");
        due("a factor whose greatest term has gone", normal("(x^12+x-x^12)*x^11"), "x^12");
        due("the last of many products", answer("x*d+x*d+x*d+(x*d-x^12*d)"), FULL);
    }

    private static void readsFullPowers() {
        sentence(23, FULL_IF);
        for (int a = 0; a <= 12; a++) {
            for (int n = 0; n <= 12; n++) {
                for (String text : new String[] {"(x^" + a + ")^" + n, "7+(d^" + a + "-x^" + a + "+2*x^" + a + ")^" + n}) {
                    if (a * n > 12) {
                        Boundary.refused("reads(0) of " + text, () -> typed(text), p -> p.reads(0), FULL);
                    } else {
                        Boundary.Probe p = typed(text);
                        due("reads(0) of " + text + " is no error", p.reads(0) >= 0 ? 1 : 0, 1);
                        due("its degree", p.of(0, 1), a * n);
                    }
                }
            }
        }
        due("0 to the 12", normal("(x^12-x^12)^12"), "0");
        due("0 to the 0", normal("(x^12-x^12)^0"), "1");
        due("a power of a power", answer("((x^2)^3)^2") + answer("((x^2)^3)^3"), 1 + FULL);
        due("a power that is multiplied", answer("(x^6)^2*d"), FULL);
        due("a power 0 that is multiplied", normal("(x^12)^0*d^12"), "d^12");
        due("a number to the 12", normal("9999^12") + answer("(2*x)^12"), normal("(0-8)^12") + "1");
        due("0 times a power", answer("0*(x^7)^2"), FULL);
        due("a power of what cancels out", answer("(x^7)^2-(x^7)^2"), FULL);
    }

    // ---- promise 24

    private static String shown(int order, String text) {
        Boundary.Probe p = Boundary.with(text);
        p.order(order);
        return p.text(0);
    }

    private static void shown() {
        sentence(24, "Returns a byte of an operator as a text.");
        Boundary.harmless("shown(0, 0)", Boundary::busy, p -> p.shown(0, 0), 'x');
        Boundary.harmless("shown(4, 0) of 0", Boundary::busy, p -> p.shown(4, 0), '0');
        Boundary.harmless("shown(4, 1) of 0", Boundary::busy, p -> p.shown(4, 1), NONE);
        sentence(24, "The text consists of its terms in descending order of their words.");
        String text = "1+2*x+3*d+4*x^2+5*x*d+6*d^2+7*x^3+8*x^2*d+9*x*d^2+10*d^3";
        due("by order 0", shown(0, text), "10*d^3+9*x*d^2+8*x^2*d+7*x^3+6*d^2+5*x*d+4*x^2+3*d+2*x+1");
        due("by order 1", shown(1, text), "7*x^3+8*x^2*d+9*x*d^2+10*d^3+4*x^2+5*x*d+6*d^2+2*x+3*d+1");
        due("the greatest degree goes first", shown(0, "x^12+d^11+1"), "x^12+d^11+1");
        due("the greatest degree goes first", shown(1, "d^12+x^11+1"), "d^12+x^11+1");
        for (int order = 0; order < 2; order++) {
            allWords(order);
        }
        sentence(24, "A term begins with + or - according to the sign of its coefficient (from -5003 to 5003); + is left out in the first term.");
        String[][] signs = {{"x", "x"}, {"-x", "-x"}, {"2*x", "2*x"}, {"-2*x", "-2*x"}, {"d+x", "d+x"}, {"d-x", "d-x"}, {"-d+x", "-d+x"}, {"-d-x", "-d-x"},
            {"5003*x", "5003*x"}, {"5004*x", "-5003*x"}, {"d+5003*x", "d+5003*x"}, {"d+5004*x", "d-5003*x"}, {"9999*d+9999*x", "-8*d-8*x"}, {"5003", "5003"},
            {"5004", "-5003"}, {"x+5003", "x+5003"}, {"x+5004", "x-5003"}};
        for (String[] s : signs) {
            due("of " + s[0], shown(0, s[0]), s[1]);
        }
        sentence(24, "The operator 0 is the text 0.");
        due("of 0", shown(0, "0"), "0");
        due("of x-x", shown(1, "x-x"), "0");
        for (int s = 0; s < 6; s++) {
            Boundary.Probe p = fresh();
            due("shown(" + s + ", 0) at first", p.shown(s, 0), '0');
            due("shown(" + s + ", 1) at first", p.shown(s, 1), NONE);
        }
    }

    private static final int[] COEFFICIENTS = {1, -1, 2, -10, 99, -100, 999, -1000, 5003, -5003};

    /** An operator with all 91 words, whose coefficients are 1, -1 and numbers of one to four digits by descending word. */
    private static Boundary.Probe manyTerms(int order, StringBuilder text) {
        Boundary.Probe p = fresh();
        p.order(order);
        int n = 0;
        for (int degree = 12; degree >= 0; degree--) {
            for (int rank = 0; rank <= degree; rank++) {
                int i = order == 0 ? rank : degree - rank;
                int c = COEFFICIENTS[n % COEFFICIENTS.length];
                p.sets(2, i, degree - i, c);
                String x = i == 0 ? "" : i == 1 ? "*x" : "*x^" + i;
                String d = i == degree ? "" : i == degree - 1 ? "*d" : "*d^" + (degree - i);
                String word = Math.abs(c) == 1 && degree > 0 ? (x + d).substring(1) : Math.abs(c) + x + d;
                text.append(c < 0 ? "-" : n == 0 ? "" : "+").append(word);
                n++;
            }
        }
        return p;
    }

    private static void allWords(int order) {
        StringBuilder text = new StringBuilder();
        Boundary.Probe p = manyTerms(order, text);
        for (int i = 0; i < text.length(); i++) {
            if (p.calls() == 512) {
                p = manyTerms(order, new StringBuilder());
            }
            due("byte " + i + " of all words by order " + order, p.shown(2, i), text.charAt(i));
        }
        due("behind all words by order " + order, manyTerms(order, new StringBuilder()).shown(2, text.length()), NONE);
    }

    private static void shownParts() {
        sentence(24, PARTS);
        for (int i = 0; i <= 12; i++) {
            for (int j = 0; i + j <= 12; j++) {
                String x = i == 0 ? "" : i == 1 ? "x" : "x^" + i;
                String d = j == 0 ? "" : j == 1 ? "d" : "d^" + j;
                String word = x + (x.isEmpty() || d.isEmpty() ? "" : "*") + d;
                for (int c : new int[] {1, -1, 2, -2, 10, -11, 100, -101, 1000, -1001, 5003, -5003}) {
                    Boundary.Probe p = fresh();
                    p.sets(0, i, j, c);
                    String number = word.isEmpty() ? "" + c : c == 1 ? "" : c == -1 ? "-" : c + "*";
                    due(c + " x^" + i + " d^" + j, p.text(0), number + word);
                }
            }
        }
        due("1 behind another term", shown(0, "d+1"), "d+1");
        due("-1 behind another term", shown(0, "d-1"), "d-1");
        due("x behind another term", shown(0, "d+x"), "d+x");
    }

    private static void shownPositions() {
        sentence(24, "s: the operator, 0 to 5");
        Boundary.range("shown(s, 0)", Boundary::busy, (p, s) -> p.shown(s, 0), 0, 5);
        sentence(24, "i: the position, 0 or greater");
        Boundary.range("shown(0, i)", Boundary::busy, (p, i) -> p.shown(0, i), 0, MAX);
        Boundary.range("shown(4, i) of 0", Boundary::busy, (p, i) -> p.shown(4, i), 0, MAX);
        sentence(24, "Returns the byte");
        String text = "-5003*x^10*d^2+d^11-x+17";
        Boundary.Probe p = Boundary.with(text);
        for (int i = 0; i < text.length(); i++) {
            due("shown(0, " + i + ")", p.shown(0, i), text.charAt(i));
        }
        sentence(24, "NONE if the text is not so long");
        for (int i : new int[] {text.length(), text.length() + 1, 50, 1000, 1 << 20, MAX - text.length(), MAX - 1, MAX}) {
            due("shown(0, " + i + ")", p.shown(0, i), NONE);
        }
        due("the last byte", p.shown(0, text.length() - 1), '7');
        due("NONE is no error", p.told(0) + p.told(1) + p.told(2), 0);
        Boundary.harmless("shown(0, 5) of x*d-2", Boundary::busy, q -> q.shown(0, 5), NONE);
        Boundary.harmless("shown(0, 4) of x*d-2", Boundary::busy, q -> q.shown(0, 4), '2');
        Boundary.harmless("shown(0, 1) at first", BoundaryTextsTest::fresh, q -> q.shown(0, 1), NONE);
        sentence(24, "BAD if there is no such operator, or i is negative.");
        for (int i : new int[] {-1, -2, MIN}) {
            Boundary.refused("shown(0, " + i + ")", Boundary::busy, q -> q.shown(0, i), BAD);
            Boundary.refused("shown(6, " + i + ")", Boundary::busy, q -> q.shown(6, i), BAD);
            Boundary.refused("shown(0, " + i + ") at first", BoundaryTextsTest::fresh, q -> q.shown(0, i), BAD);
        }
        for (int s : new int[] {-1, 6, MIN, MAX}) {
            Boundary.refused("shown(" + s + ", 1000): BAD, not NONE", Boundary::busy, q -> q.shown(s, 1000), BAD);
            Boundary.refused("shown(" + s + ", 0) at first", BoundaryTextsTest::fresh, q -> q.shown(s, 0), BAD);
        }
    }
}
