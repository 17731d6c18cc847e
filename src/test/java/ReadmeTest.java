import java.io.ByteArrayOutputStream;
import java.io.IOException;
import java.io.PrintStream;
import java.lang.reflect.Method;
import java.lang.reflect.Modifier;
import java.net.URLClassLoader;
import java.nio.charset.StandardCharsets;
import java.nio.file.Files;
import java.nio.file.Path;
import java.util.ArrayList;
import java.util.List;
import java.util.regex.Matcher;
import java.util.regex.Pattern;
import java.util.stream.Stream;

/** README.md: each of its examples is compiled and run as it stands there, and answers what it says. */
public final class ReadmeTest {
    private static final Pattern BLOCK = Pattern.compile("(?ms)^```(\\w+)\\n(.*?)^```$");
    private static final Pattern ROW = Pattern.compile("(light\\.(\\w+)\\(.*\\));\\s*// (-?\\d+)(?:: .*)?");
    private static final String MADE = "OldLight light = new OldLight();";

    private static final List<String> CALLS = new ArrayList<>();
    private static final List<Integer> DUE = new ArrayList<>();
    private static final StringBuilder EXAMPLES = new StringBuilder();
    private static Path out;

    public static void main(String[] args) throws Exception {
        String readme = Files.readString(Path.of("README.md"));
        out = Files.createTempDirectory("readme");
        String program = "";
        String printed = "";
        Matcher block = BLOCK.matcher(readme);
        while (block.find()) {
            if (block.group(1).equals("text")) {
                printed = block.group(2);
            } else if (block.group(2).startsWith("public final class Harbour")) {
                program = block.group(2);
            } else {
                take(block.group(2));
            }
        }
        examplesAnswer();
        programPrints(program, printed);
        eachActHasOne();
        eachTestIsNamed(readme);
        remove();
        Expect.end();
    }

    /** A block of calls becomes a block of a class, each answer being added to a list. */
    private static void take(String block) {
        Expect.holds("a block makes its object: " + block, block.startsWith(MADE));
        EXAMPLES.append("{\n").append(MADE).append('\n');
        for (String line : block.substring(MADE.length()).strip().split("\n")) {
            Matcher row = ROW.matcher(line);
            if (!row.matches()) {
                Expect.holds("a call with its answer: " + line, false);
                continue;
            }
            CALLS.add(row.group(1));
            DUE.add(Integer.parseInt(row.group(3)));
            EXAMPLES.append("GOT.add(").append(row.group(1)).append(");\n");
        }
        EXAMPLES.append("}\n");
    }

    private static void examplesAnswer() throws Exception {
        Class<?> examples = compiled("Examples", "public final class Examples {\n"
            + "public static final java.util.List<Integer> GOT = new java.util.ArrayList<>();\n"
            + "public static void main(String[] args) {\n" + EXAMPLES + "}\n}\n");
        run(examples);
        List<?> got = (List<?>) examples.getField("GOT").get(null);
        Expect.due("calls in README.md", got.size(), CALLS.size());
        for (int i = 0; i < CALLS.size(); i++) {
            Expect.due("README.md: " + CALLS.get(i), (Integer) got.get(i), DUE.get(i));
        }
    }

    private static void programPrints(String program, String printed) throws Exception {
        Class<?> harbour = compiled("Harbour", program);
        PrintStream before = System.out;
        ByteArrayOutputStream bytes = new ByteArrayOutputStream();
        System.setOut(new PrintStream(bytes, true, StandardCharsets.UTF_8));
        try {
            run(harbour);
        } finally {
            System.setOut(before);
        }
        Expect.same("Harbour", bytes.toString(StandardCharsets.UTF_8).replace("\r\n", "\n"), printed);
    }

    private static Class<?> compiled(String name, String source) throws Exception {
        Path file = Files.writeString(out.resolve(name + ".java"), source);
        int code = new ProcessBuilder("javac", "-cp", System.getProperty("java.class.path"), "-d", out.toString(),
            file.toString()).inheritIO().start().waitFor();
        Expect.due("compiling " + name, code, 0);
        return new URLClassLoader(new java.net.URL[] {out.toUri().toURL()}).loadClass(name);
    }

    private static void run(Class<?> program) throws ReflectiveOperationException {
        program.getMethod("main", String[].class).invoke(null, (Object) new String[0]);
    }

    private static void eachActHasOne() {
        String all = String.join("\n", CALLS);
        for (Method act : OldLight.class.getDeclaredMethods()) {
            if (Modifier.isPublic(act.getModifiers())) {
                Expect.holds("an example of " + act.getName(), all.contains("light." + act.getName() + "("));
            }
        }
        for (int error = Expect.BEYOND; error >= Expect.KIND; error--) {
            Expect.holds("an example of " + error, DUE.contains(error));
        }
    }

    private static void eachTestIsNamed(String readme) throws IOException {
        try (Stream<Path> files = Files.list(Path.of("src/test/java"))) {
            for (Path file : (Iterable<Path>) files::iterator) {
                String name = file.getFileName().toString().replace(".java", "");
                Expect.holds("README.md tells of " + name, !name.endsWith("Test") || readme.contains("| `" + name + "` |"));
            }
        }
    }

    private static void remove() throws IOException {
        try (Stream<Path> files = Files.list(out)) {
            for (Path file : (Iterable<Path>) files::iterator) {
                Files.delete(file);
            }
        }
        Files.delete(out);
    }
}
