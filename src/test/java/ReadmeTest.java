import java.lang.reflect.Field;
import java.lang.reflect.Modifier;
import java.nio.charset.StandardCharsets;
import java.nio.file.Files;
import java.nio.file.Path;
import java.util.regex.Matcher;
import java.util.regex.Pattern;
import java.util.stream.Stream;

/** README.md: its program prints what it says, and it names each call, each error, and each test of the project. */
public final class ReadmeTest {
    private static int wrong = 0;

    private static void check(boolean good, String what) {
        if (!good) {
            wrong++;
            System.out.println("README.md: " + what);
        }
    }

    public static void main(String[] args) throws Exception {
        String readme = Files.readString(Path.of("README.md"));
        program(readme);
        calls(readme);
        errors(readme);
        tests(readme);
        System.out.println(wrong == 0 ? "README.md says what is so" : wrong + " things are wrong");
        if (wrong != 0) {
            System.exit(1);
        }
    }

    /** The first block of a language; empty if there is none. */
    private static String block(String readme, String language) {
        Matcher found = Pattern.compile("(?ms)^```" + language + "\n(.*?)^```$").matcher(readme);
        return found.find() ? found.group(1) : "";
    }

    /** Compiles and runs the program by the same two commands as a reader of the page. */
    private static void program(String readme) throws Exception {
        Path directory = Files.createTempDirectory("readme");
        try {
            Path source = directory.resolve("Try.java");
            Files.writeString(source, block(readme, "java"));
            String compiled = answer("javac", "-d", directory.toString(), "src/main/java/WeylWords.java", source.toString());
            check(compiled.isEmpty(), "its program is not compiled: " + compiled);
            String printed = answer("java", "-cp", directory.toString(), "Try");
            check(printed.equals(block(readme, "text")), "its program prints\n" + printed);
        } finally {
            try (Stream<Path> files = Files.list(directory)) {
                for (Path file : (Iterable<Path>) files::iterator) {
                    Files.delete(file);
                }
            }
            Files.delete(directory);
        }
    }

    /** What a command prints, and its exit code if that is not 0; its complaints are shown where the test's are. */
    private static String answer(String... command) throws Exception {
        Process process = new ProcessBuilder(command).redirectError(ProcessBuilder.Redirect.INHERIT).start();
        String printed = new String(process.getInputStream().readAllBytes(), StandardCharsets.UTF_8);
        int code = process.waitFor();
        return printed.replace(System.lineSeparator(), "\n") + (code == 0 ? "" : "exit code " + code);
    }

    /** Each method stands in the table with the names of its arguments, and is marked there if it is a change. */
    private static void calls(String readme) throws Exception {
        String source = Files.readString(Path.of("src/main/java/WeylWords.java"));
        Matcher method = Pattern.compile("(?m)^    public (?:int|long) (\\w+)\\((.*)\\) \\{$").matcher(source);
        int count = 0;
        while (method.find()) {
            count++;
            String call = "`" + method.group(1) + "(" + method.group(2).replace("int ", "") + ")`";
            Matcher row = Pattern.compile("(?m)^\\| " + Pattern.quote(call) + "( \\*)? \\|").matcher(readme);
            boolean found = row.find();
            check(found, "no row for " + call);
            check(!found || (row.group(1) != null) == isChange(method.group(1)), "the mark of a change at " + call);
        }
        check(count == 26, "there are " + count + " calls");
    }

    private static boolean isChange(String name) {
        String changes = " sets sums times bracket power reversed order puts makes kills rest reads ";
        return changes.contains(" " + name + " ");
    }

    private static void errors(String readme) throws Exception {
        int count = 0;
        for (Field field : WeylWords.class.getFields()) {
            if (Modifier.isStatic(field.getModifiers())) {
                count++;
                String name = "`WeylWords." + field.getName() + "`";
                Pattern numbered = Pattern.compile(Pattern.quote(name) + "( \\| |, )" + field.getInt(null) + "\\b");
                check(numbered.matcher(readme).find(), "the number of " + name);
            }
        }
        check(count == 4, "there are " + count + " constants");
    }

    private static void tests(String readme) throws Exception {
        try (Stream<Path> files = Files.list(Path.of("src/test/java"))) {
            for (Path file : (Iterable<Path>) files::iterator) {
                String name = file.getFileName().toString().replace(".java", "");
                check(readme.contains("`" + name + "`"), "no word about " + name);
            }
        }
        check(readme.contains("\n.ci/run\n"), "no word about .ci/run");
    }
}
