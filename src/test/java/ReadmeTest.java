import java.io.ByteArrayOutputStream;
import java.io.IOException;
import java.io.PrintStream;
import java.lang.reflect.Method;
import java.lang.reflect.Modifier;
import java.net.URL;
import java.net.URLClassLoader;
import java.nio.charset.StandardCharsets;
import java.nio.file.DirectoryStream;
import java.nio.file.Files;
import java.nio.file.Path;
import java.util.ArrayList;
import java.util.List;
import java.util.Map;
import java.util.TreeMap;
import java.util.regex.Matcher;
import java.util.regex.Pattern;
import javax.tools.JavaCompiler;
import javax.tools.ToolProvider;

/** README.md: its first program prints what stands there, its examples answer as told, and no call or test is left out. */
public final class ReadmeTest {
    private static final Path DOC = Path.of("../shared/DOC.md");
    private static final Path TESTS = Path.of("src/test/java");
    private static final Pattern CODE_AND_ANSWER = Pattern.compile("(.+;)(?:\\s+//\\s+(.+))?");
    private static final Pattern ANSWER = Pattern.compile("(-?\\d+|NONE|true|false|\"[^\"]*\"|throws \\w+)(?::.*)?");
    private static final Pattern WITHOUT_ANSWER = Pattern.compile("SeenToMove x = new SeenToMove\\(\\);|feed\\(x, .+\\);");
    private static final Pattern ROW = Pattern.compile("(?m)^\\| (\\d+) \\| `(\\w+)\\(([^)]*)\\)` \\| .+ \\|$");

    private static int wrong;

    public static void main(String[] args) throws IOException, ReflectiveOperationException {
        String page = Files.readString(Path.of(args.length > 0 ? args[0] : "README.md"));
        List<String> programs = blocks(page, "java");
        List<String> outputs = blocks(page, "text");
        if (programs.size() < 2 || outputs.size() != 1) {
            fail("a program, its output and examples must stand there");
        } else {
            run(programs.get(0), outputs.get(0), examples(programs.subList(1, programs.size())));
        }
        tellsEveryCall(page, String.join("", programs));
        tellsEveryTest(page);
        System.out.println(wrong == 0 ? "README.md is true" : wrong + " things in README.md are not so");
        if (wrong != 0) {
            System.exit(1);
        }
    }

    private static void fail(String what) {
        wrong++;
        System.out.println(what);
    }

    private static List<String> blocks(String page, String kind) {
        List<String> blocks = new ArrayList<>();
        Matcher m = Pattern.compile("(?ms)^```" + kind + "\n(.*?)^```$").matcher(page);
        while (m.find()) {
            blocks.add(m.group(1));
        }
        return blocks;
    }

    /** A class that does the examples, each in a method of its own, and tells what is not as due. */
    private static String examples(List<String> examples) {
        StringBuilder text = new StringBuilder("public final class Examples extends First {\n"
            + "static final int NONE = SeenToMove.NONE;\n"
            + "static final java.util.List<String> WRONG = new java.util.ArrayList<>();\n"
            + "static void due(String call, Object got, Object want) {\n"
            + "if (!got.equals(want)) { WRONG.add(call + \" answered \" + got + \", README.md says \" + want); } }\n"
            + "public static java.util.List<String> run() {\n");
        for (int i = 0; i < examples.size(); i++) {
            text.append("example").append(i).append("();\n");
        }
        text.append("return WRONG; }\n");
        for (int i = 0; i < examples.size(); i++) {
            text.append("static void example").append(i).append("() {\n");
            examples.get(i).lines().forEach(line -> text.append(statement(line)).append('\n'));
            text.append("}\n");
        }
        return text.append("}\n").toString();
    }

    /** A line of an example, as a statement that compares its answer. */
    private static String statement(String line) {
        Matcher parts = CODE_AND_ANSWER.matcher(line);
        if (!parts.matches()) {
            fail("no call stands in the line: " + line);
            return "";
        }
        String code = parts.group(1);
        if (WITHOUT_ANSWER.matcher(code).matches()) {
            return code;
        }
        if (parts.group(2) == null) {
            fail("no answer stands behind the call: " + line);
            return code;
        }
        Matcher answer = ANSWER.matcher(parts.group(2));
        if (!answer.matches()) {
            fail("no answer can be read in the line: " + line);
            return code;
        }
        String call = code.substring(0, code.length() - 1);
        String told = "\"" + call.replace("\\", "\\\\").replace("\"", "\\\"") + "\"";
        if (answer.group(1).startsWith("throws ")) {
            return "try { " + code + " WRONG.add(" + told + " + \" threw nothing\"); } catch (RuntimeException e) { due(" + told
                + ", \"throws \" + e.getClass().getSimpleName(), \"" + answer.group(1) + "\"); }";
        }
        return "due(" + told + ", " + call + ", " + answer.group(1) + ");";
    }

    private static void run(String first, String output, String examples) throws IOException, ReflectiveOperationException {
        Path out = Files.createTempDirectory("readme");
        try {
            Path firstFile = Files.writeString(out.resolve("First.java"), first);
            Path examplesFile = Files.writeString(out.resolve("Examples.java"), examples);
            JavaCompiler javac = ToolProvider.getSystemJavaCompiler();
            String path = System.getProperty("java.class.path");
            if (javac == null) {
                fail("no javac is there");
            } else if (javac.run(null, null, null, "-cp", path, "-d", out.toString(), firstFile.toString(), examplesFile.toString()) != 0) {
                fail("what stands in README.md does not compile");
            } else {
                runCompiled(out, output);
            }
        } finally {
            deleteAll(out);
        }
    }

    private static void runCompiled(Path out, String output) throws IOException, ReflectiveOperationException {
        // A First that was compiled by hand may stand on the class path: the page's own one must be found ahead of it.
        URL[] path = {out.toUri().toURL(), SeenToMove.class.getProtectionDomain().getCodeSource().getLocation()};
        try (URLClassLoader loader = new URLClassLoader(path, ClassLoader.getPlatformClassLoader())) {
            String printed = printedBy(loader.loadClass("First").getMethod("main", String[].class));
            if (!printed.equals(output)) {
                fail("the first program prints\n" + printed + "README.md says\n" + output);
            }
            List<?> faults = (List<?>) loader.loadClass("Examples").getMethod("run").invoke(null);
            faults.forEach(fault -> fail(fault.toString()));
        }
    }

    private static String printedBy(Method main) throws ReflectiveOperationException {
        PrintStream screen = System.out;
        ByteArrayOutputStream bytes = new ByteArrayOutputStream();
        System.setOut(new PrintStream(bytes, true, StandardCharsets.UTF_8));
        try {
            main.invoke(null, (Object) new String[0]);
        } finally {
            System.setOut(screen);
        }
        return bytes.toString(StandardCharsets.UTF_8).replace(System.lineSeparator(), "\n");
    }

    private static void deleteAll(Path directory) throws IOException {
        try (DirectoryStream<Path> files = Files.newDirectoryStream(directory)) {
            for (Path file : files) {
                Files.delete(file);
            }
        }
        Files.delete(directory);
    }

    /** In the table with its promise and as many arguments as it takes, and in an example. */
    private static void tellsEveryCall(String page, String programs) throws IOException {
        Map<String, String> rows = new TreeMap<>();
        Matcher row = ROW.matcher(page);
        while (row.find()) {
            int arguments = row.group(3).isEmpty() ? 0 : row.group(3).split(", ").length;
            rows.put(row.group(2), row.group(1) + " with " + arguments + " arguments");
        }
        String doc = Files.readString(DOC);
        for (Method m : SeenToMove.class.getDeclaredMethods()) {
            if (!Modifier.isPublic(m.getModifiers())) {
                continue;
            }
            Matcher heading = Pattern.compile("(?m)^## Promise (\\d+): " + m.getName() + "$").matcher(doc);
            String due = (heading.find() ? heading.group(1) : "none") + " with " + m.getParameterCount() + " arguments";
            String told = rows.remove(m.getName());
            if (!due.equals(told)) {
                fail("in the table " + m.getName() + " is " + told + ", due is " + due);
            }
            if (!programs.contains("x." + m.getName() + "(")) {
                fail("no example calls " + m.getName());
            }
        }
        if (!rows.isEmpty()) {
            fail("in the table there are other calls: " + rows);
        }
    }

    private static void tellsEveryTest(String page) throws IOException {
        try (DirectoryStream<Path> files = Files.newDirectoryStream(TESTS, "*Test.java")) {
            for (Path file : files) {
                String name = file.getFileName().toString().replace(".java", "");
                if (!page.contains("- `" + name + "`: ")) {
                    fail("the test " + name + " is not told");
                }
            }
        }
    }
}
