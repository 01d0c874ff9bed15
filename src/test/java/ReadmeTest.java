import java.io.IOException;
import java.io.StringWriter;
import java.lang.reflect.Method;
import java.lang.reflect.Modifier;
import java.net.URI;
import java.net.URL;
import java.net.URLClassLoader;
import java.nio.charset.StandardCharsets;
import java.nio.file.Files;
import java.nio.file.Path;
import java.util.ArrayList;
import java.util.Collections;
import java.util.List;
import java.util.concurrent.Callable;
import java.util.regex.Matcher;
import java.util.regex.Pattern;
import javax.tools.JavaCompiler;
import javax.tools.JavaFileObject;
import javax.tools.SimpleJavaFileObject;
import javax.tools.ToolProvider;

/** README.md: its examples answer and throw what stands behind them, its tables are the face, its texts are right. */
public final class ReadmeTest {
    private static final Pattern ROW = Pattern.compile(
        "(?:int (\\w+) = )?(row\\.\\w+\\(.*?\\));\\s+// (?:(answers|throws) ([-\\w]+))?.*");
    private static final String[] LETTERS = {"Index", "I", "Illegal", "A", "Unsupported", "U", "NoSuch", "N"};
    private static final String[] SORTS = {"RIGHTS", "RENTS", "WAITS", "PAINT"};

    private ReadmeTest() {
    }

    public static void main(String[] args) throws Exception {
        Path path = Path.of(System.getProperty("hutrow.readme", "README.md"));
        String page = new String(Files.readAllBytes(path), StandardCharsets.UTF_8);
        List<String> examples = all("(?s)```java\n(.*?)```", page);
        Check.due("examples", 2, examples::size);
        for (int i = 0; i < examples.size(); i++) {
            example("ReadmeExample" + i, examples.get(i));
        }
        Check.due("the tables", face(), () -> tables(page));
        for (int sort = 0; sort < SORTS.length; sort++) {
            int number = sort;
            for (String text : all("(?m)^- " + SORTS[sort] + ": `(.*)`$", page)) {
                Check.due(text, text.split(";").length, () -> Check.text(new HutRow(), number, text));
            }
            Check.due("texts of " + SORTS[sort], 1, () -> all("(?m)^- " + SORTS[number] + ": `(.*)`$", page).size());
        }
        tests(page, path.toAbsolutePath().resolveSibling("src/test/java"));
        Check.close();
    }

    private static List<String> all(String pattern, String text) {
        List<String> found = new ArrayList<>();
        Matcher matcher = Pattern.compile(pattern).matcher(text);
        while (matcher.find()) {
            found.add(matcher.group(1));
        }
        return found;
    }

    // ---- the examples

    private static void example(String name, String rows) throws Exception {
        List<String> calls = new ArrayList<>();
        List<String> due = new ArrayList<>();
        StringBuilder body = new StringBuilder();
        for (String row : rows.split("\n")) {
            Matcher matcher = ROW.matcher(row);
            if (matcher.matches()) {
                calls.add(row);
                due.add(matcher.group(3) == null ? "done" : matcher.group(3) + " " + matcher.group(4));
                body.append(made(matcher));
            } else {
                Check.isTrue("no call: " + row, row.matches("(HutRow row = new HutRow\\(\\);.*|//.*|)"));
                body.append(row).append('\n');
            }
        }
        List<String> got = run(name, body.toString());
        Check.due("calls of " + name, calls.size(), got::size);
        for (int i = 0; i < Math.min(calls.size(), got.size()); i++) {
            String answer = got.get(i);
            Check.due("README: " + calls.get(i), due.get(i), () -> answer);
        }
    }

    /** A row of an example, as it is written in a method that gathers the answers. */
    private static String made(Matcher row) {
        String call = row.group(2);
        if (row.group(1) != null) {
            return "int " + row.group(1) + " = " + call + "; got.add(\"answers \" + " + row.group(1) + ");\n";
        }
        if (row.group(3) == null) {
            return call + "; got.add(\"done\");\n";
        }
        String answers = row.group(3).equals("answers") ? "got.add(\"answers \" + " + call + ");"
            : call + "; got.add(\"nothing thrown\");";
        return "try { " + answers + " } catch (RuntimeException e) "
            + "{ got.add(\"throws \" + e.getClass().getSimpleName()); }\n";
    }

    @SuppressWarnings("unchecked")
    private static List<String> run(String name, String body) throws Exception {
        String source = "public final class " + name + " implements java.util.concurrent.Callable<Object> {\n"
            + "public Object call() {\njava.util.List<String> got = new java.util.ArrayList<>();\n" + body
            + "return got;\n}\n}\n";
        Path out = Files.createTempDirectory("readme");
        try {
            StringWriter said = new StringWriter();
            JavaCompiler compiler = ToolProvider.getSystemJavaCompiler();
            boolean right = compiler.getTask(said, null, null,
                List.of("-d", out.toString(), "-cp", System.getProperty("java.class.path")), null,
                List.of(new Source(name, source))).call();
            Check.due(name + " compiles", "true", () -> right ? "true" : said.toString());
            if (!right) {
                return new ArrayList<>();
            }
            try (URLClassLoader loader = new URLClassLoader(new URL[] {out.toUri().toURL()})) {
                Object made = loader.loadClass(name).getDeclaredConstructor().newInstance();
                return (List<String>) ((Callable<Object>) made).call();
            }
        } finally {
            Files.deleteIfExists(out.resolve(name + ".class"));
            Files.deleteIfExists(out);
        }
    }

    private static final class Source extends SimpleJavaFileObject {
        private final String text;

        Source(String name, String text) {
            super(URI.create("string:///" + name + ".java"), JavaFileObject.Kind.SOURCE);
            this.text = text;
        }

        @Override
        public CharSequence getCharContent(boolean ignoreErrors) {
            return text;
        }
    }

    // ---- the tables

    private static List<String> face() {
        List<String> rows = new ArrayList<>();
        for (Method method : HutRow.class.getDeclaredMethods()) {
            if (Modifier.isPublic(method.getModifiers())) {
                StringBuilder row = new StringBuilder(method.getReturnType() + " " + method.getName());
                row.append(' ').append(method.getParameterCount());
                for (Class<?> thrown : method.getExceptionTypes()) {
                    row.append(' ').append(letter(thrown.getSimpleName()));
                }
                rows.add(row.toString());
            }
        }
        Collections.sort(rows);
        return rows;
    }

    private static String letter(String thrown) {
        for (int i = 0; i < LETTERS.length; i += 2) {
            if (thrown.startsWith(LETTERS[i])) {
                return LETTERS[i + 1];
            }
        }
        return thrown;
    }

    private static List<String> tables(String page) {
        List<String> rows = new ArrayList<>();
        Matcher row = Pattern.compile("(?m)^\\| `(\\w+ \\w+)\\((.*?)\\)` \\| .* \\|( .*?)?\\|$").matcher(page);
        while (row.find()) {
            int many = row.group(2).isEmpty() ? 0 : row.group(2).split(", ").length;
            rows.add((row.group(1) + " " + many + " " + (row.group(3) == null ? "" : row.group(3).trim())).trim());
        }
        Collections.sort(rows);
        return rows;
    }

    // ---- the tests that it names

    private static void tests(String page, Path folder) throws IOException {
        if (!Files.isDirectory(folder)) {
            System.out.println("no tests at " + folder + ": their names are not looked up");
            return;
        }
        try (java.util.stream.Stream<Path> files = Files.list(folder)) {
            files.map(file -> file.getFileName().toString().replace(".java", ""))
                .filter(name -> name.endsWith("Test") || name.endsWith("Edges"))
                .forEach(name -> Check.isTrue("README names " + name, page.contains("`" + name + "`")));
        }
        for (String name : all("`(\\w+(?:Test|Edges))`", page)) {
            Check.isTrue(name + " is there", Files.isReadable(folder.resolve(name + ".java")));
        }
    }
}
