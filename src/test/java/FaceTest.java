import java.lang.management.ManagementFactory;
import java.lang.reflect.Constructor;
import java.lang.reflect.Field;
import java.lang.reflect.Method;
import java.lang.reflect.Modifier;
import java.nio.file.Files;
import java.nio.file.Path;
import java.util.Arrays;
import java.util.HashSet;
import java.util.Set;
import java.util.TreeSet;
import java.util.regex.Matcher;
import java.util.regex.Pattern;

/** The public face, those rules of ../shared/LANGUAGE.md that can be looked at from outside, and what a run makes. */
public final class FaceTest {
    private static int wrong = 0;

    private static void check(boolean good, String what) {
        if (!good) {
            wrong++;
            System.out.println("wrong: " + what);
        }
    }

    public static void main(String[] args) throws Exception {
        face();
        classes();
        source();
        room();
        System.out.println(wrong == 0 ? "the face and the language are as due" : wrong + " things are wrong");
        if (wrong != 0) {
            System.exit(1);
        }
    }

    private static void face() throws Exception {
        String[] due = {"int sets(4)", "int at(3)", "int sums(5)", "int times(3)", "int bracket(3)", "int power(3)", "int reversed(2)",
            "int of(2)", "int order(1)", "int puts(3)", "int rate(2)", "int makes(3)", "int kernel(2)", "int kills(2)", "int rest(3)",
            "int basis(1)", "int based(4)", "int stairs(2)", "int within(2)", "int type(1)", "int clear(0)", "int reads(1)", "int shown(2)",
            "int back(0)", "int told(1)", "long digest(0)"};
        Set<String> found = new TreeSet<>();
        Set<String> names = new HashSet<>();
        for (Method m : WeylWords.class.getDeclaredMethods()) {
            if (!Modifier.isPrivate(m.getModifiers())) {
                check(Modifier.isPublic(m.getModifiers()) && !Modifier.isStatic(m.getModifiers()), "not public: " + m);
                found.add(m.getReturnType() + " " + m.getName() + "(" + m.getParameterCount() + ")");
                names.add(m.getName());
                for (Class<?> type : m.getParameterTypes()) {
                    check(type == int.class, "a parameter of " + m);
                }
            }
        }
        check(found.equals(new TreeSet<>(Arrays.asList(due))), "the methods are " + found);
        for (Method m : WeylWords.class.getDeclaredMethods()) {
            check(!Modifier.isPrivate(m.getModifiers()) || !names.contains(m.getName()), "a private method bears a public name: " + m);
        }
        for (Class<?> inner : WeylWords.class.getDeclaredClasses()) {
            for (Method m : inner.getDeclaredMethods()) {
                check(!names.contains(m.getName()), "a method inside bears a public name: " + m);
            }
        }
        int constants = 0;
        for (Field f : WeylWords.class.getDeclaredFields()) {
            if (!Modifier.isPrivate(f.getModifiers())) {
                constants++;
                check(Modifier.isPublic(f.getModifiers()) && Modifier.isStatic(f.getModifiers()) && Modifier.isFinal(f.getModifiers())
                    && f.getType() == int.class, "field " + f);
            }
        }
        check(constants == 4, "there are " + constants + " constants");
        Constructor<?>[] made = WeylWords.class.getDeclaredConstructors();
        check(made.length == 1 && made[0].getParameterCount() == 0 && Modifier.isPublic(made[0].getModifiers()), "the constructor");
        check(Modifier.isFinal(WeylWords.class.getModifiers()) && Modifier.isPublic(WeylWords.class.getModifiers()), "the class is public and final");
        check(WeylWords.class.getPackageName().isEmpty(), "no package");
        check(WeylWords.NONE == -20001 && WeylWords.BAD == -20002 && WeylWords.NO == -20003 && WeylWords.FULL == -20004, "the constants");
    }

    private static void classes() {
        Class<?>[] inside = WeylWords.class.getDeclaredClasses();
        check(inside.length + 1 <= 12, "there are " + (inside.length + 1) + " classes");
        look(WeylWords.class);
        for (Class<?> c : inside) {
            look(c);
            int m = c.getModifiers();
            check(Modifier.isStatic(m) && !Modifier.isPublic(m) && !Modifier.isProtected(m), "modifiers of " + c);
        }
    }

    private static void look(Class<?> c) {
        int fields = 0;
        for (Field f : c.getDeclaredFields()) {
            if (Modifier.isStatic(f.getModifiers())) {
                check(Modifier.isFinal(f.getModifiers()), "a static field is not final: " + f);
            } else {
                fields++;
            }
        }
        check(fields <= 20, c + " has " + fields + " fields");
        for (Method m : c.getDeclaredMethods()) {
            check(m.getParameterCount() <= 7, "too many parameters: " + m);
        }
    }

    private static void source() throws Exception {
        String text = Files.readString(Path.of("src/main/java/WeylWords.java"));
        for (int k = 0; k < text.length(); k++) {
            check(text.charAt(k) < 128, "a sign above 127 at " + k);
        }
        String code = text.replaceAll("(?s)/\\*.*?\\*/", "").replaceAll("//[^\n]*", "").replaceAll("'[^']*'", "' '");
        String[] refused = {"throw", "throws", "try", "catch", "synchronized", "assert", "package", "volatile", "transient", "native",
            "double", "float", "Object", "String", "System.out", "hashCode", "equals", "toString"};
        for (String word : refused) {
            check(!Pattern.compile("\\b" + Pattern.quote(word) + "\\b").matcher(code).find(), "the word " + word);
        }
        check(!code.contains("->") && !code.contains("::"), "a lambda or a method reference");
        Matcher imports = Pattern.compile("import ([^;]*);").matcher(code);
        while (imports.find()) {
            check(imports.group(1).equals("java.util.Arrays"), "import " + imports.group(1));
        }
        check(!Pattern.compile("static\\s*\\{").matcher(code).find(), "a static block");
        check(!Pattern.compile("\\w\\[\\]\\[\\]\\[\\]").matcher(code).find(), "an array of three dimensions");
        methodLengths(text);
    }

    private static void methodLengths(String text) {
        String[] lines = text.split("\n");
        for (int k = 0; k < lines.length; k++) {
            Matcher head = Pattern.compile("^( {4}| {8})\\S.*\\) \\{$").matcher(lines[k]);
            if (head.matches()) {
                int end = k;
                while (!lines[end].equals(head.group(1) + "}")) {
                    end++;
                }
                check(end - k + 1 <= 60, "a method of " + (end - k + 1) + " lines: " + lines[k].trim());
            }
        }
    }

    /** What 512 calls make, the object itself too; the room is some 7.3 million fields and elements. */
    private static void room() {
        com.sun.management.ThreadMXBean bean = (com.sun.management.ThreadMXBean) ManagementFactory.getThreadMXBean();
        long id = Thread.currentThread().getId();
        dearRun();
        long before = bean.getThreadAllocatedBytes(id);
        dearRun();
        long made = bean.getThreadAllocatedBytes(id) - before;
        check(made < 200_000, "a run makes " + made + " bytes");
    }

    private static long dearRun() {
        WeylWords w = new WeylWords();
        long sum = 0;
        byte[] text = TEXT;
        for (byte c : text) {
            sum += w.type(c);
        }
        for (int k = 0; k < 40; k++) {
            sum += w.reads(k % 6) + w.of(k % 6, k % 9) + w.shown(k % 6, 7 * k);
            sum += w.sets(0, 0, k % 4, k) + w.power(5, 0, 4) + w.sums(0, 0, 0, 0, 0);
            sum += w.sets(0, 1, 2, k) + w.sets(1, 2, 0, 3) + w.basis(1) + w.basis(3) + w.stairs(3, 9) + w.kernel(5, 15);
        }
        return sum + w.digest();
    }

    private static final byte[] TEXT = "(x+d+1)^12-(3*x-d+2)^12".getBytes();
}
