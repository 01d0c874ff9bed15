import java.io.IOException;
import java.lang.reflect.Method;
import java.lang.reflect.Modifier;
import java.nio.charset.StandardCharsets;
import java.nio.file.Files;
import java.nio.file.Path;
import java.util.ArrayList;
import java.util.Arrays;
import java.util.List;
import java.util.Set;
import java.util.TreeSet;
import java.util.regex.Matcher;
import java.util.regex.Pattern;

/** What of ../shared/LANGUAGE.md can be seen in the program's source. */
public final class SourceTest {
    private static final String[] NOT_THERE = {"->", "::", "\\btry\\b", "\\bcatch\\b", "\\bfinally\\b",
        "\\bsynchronized\\b", "\\bassert\\b", "\\bprotected\\b", "\\bdouble\\b", "\\bfloat\\b", "\\bpackage\\b",
        "\\+ *\"", "\" *\\+", "Exact\\(", "\\bThread\\b", "\\bRandom\\b", "\\bSystem\\.(?!arraycopy)", "\\bstatic \\{",
        "\\bhashCode\\b", "\\bequals\\b", "\\btoString\\b", "\\bList\\b", "while \\(true\\)", "for \\(;"};
    private static final Set<String> LIBRARY = new TreeSet<>(Arrays.asList("Arrays.copyOf", "Arrays.fill",
        "Integer.MAX_VALUE", "Integer.bitCount", "Integer.numberOfTrailingZeros", "Math.abs", "Math.max", "Math.min",
        "System.arraycopy", "WORDS.charAt", "WORDS.length"));

    public static void main(String[] args) throws IOException {
        Path path = Path.of(System.getProperty("hutrow.source", "src/main/java/HutRow.java"));
        String whole = new String(Files.readAllBytes(path), StandardCharsets.UTF_8);
        String source = whole.replaceAll("(?s)/\\*.*?\\*/", "").replaceAll("//[^\n]*", "");
        Check.isTrue("signs 1 to 127", whole.chars().allMatch(sign -> sign > 0 && sign < 128));
        words(source);
        staticFields(source);
        library(source);
        throwing(source);
        methods(whole.split("\n"));
        classes();
        Check.close();
    }

    private static List<String> all(String pattern, String source) {
        List<String> found = new ArrayList<>();
        Matcher matcher = Pattern.compile(pattern).matcher(source);
        while (matcher.find()) {
            found.add(matcher.group(matcher.groupCount()));
        }
        return found;
    }

    private static void words(String source) {
        for (String word : NOT_THERE) {
            Check.due("no " + word, "[]", () -> all(word, source));
        }
        Check.due("imports", "[java.util.Arrays, java.util.NoSuchElementException]",
            () -> all("import ([\\w.]+);", source));
        Check.due("public members and the class", 46, () -> all("\\bpublic\\b", source).size());
    }

    private static void staticFields(String source) {
        for (String field : all("(?m)^ +(?:private |public )?(static [^(\n]*=.*)$", source)) {
            Check.isTrue("a constant: " + field,
                field.matches("static final (int|String|int\\[\\]) [A-Z_]+ =.*"));
        }
    }

    private static void library(String source) {
        Set<String> used = new TreeSet<>(all("\\b((?:[A-Z]\\w+)\\.\\w+)", source));
        used.removeAll(LIBRARY);
        used.removeIf(name -> name.equals("FACTS_OF_SORT.length"));
        Check.due("no other library", "[]", () -> used);
    }

    private static void throwing(String source) {
        for (String thrown : all("\\bthrow\\b([^;]*);", source)) {
            Check.isTrue("throw" + thrown, thrown.matches(" new (IllegalArgument|IndexOutOfBounds|"
                + "UnsupportedOperation|NoSuchElement)Exception\\(\\)"));
        }
    }

    /** A method begins at four or eight blanks and ends with a brace at as many. */
    private static void methods(String[] lines) {
        Pattern head = Pattern.compile("^(    |        )(?=\\S)(?!return|new|else)[\\w\\[\\] ]*?(\\w+)\\(([^;]*)$");
        for (int i = 0; i < lines.length; i++) {
            Matcher matcher = head.matcher(lines[i]);
            boolean isHead = matcher.matches() && !lines[i].contains("=")
                && !matcher.group(2).matches("if|for|while|switch");
            if (!isHead) {
                continue;
            }
            int end = i;
            while (end < lines.length && !lines[end].equals(matcher.group(1) + "}")) {
                end++;
            }
            int many = end - i + 1;
            Check.isTrue(matcher.group(2) + " has " + many + " lines", many <= 60);
            Check.isTrue(matcher.group(2) + " has few parameters",
                matcher.group(3).chars().filter(sign -> sign == ',').count() < 7);
        }
        for (String line : lines) {
            Check.isTrue("a line of " + line.length() + " signs", line.length() <= 130);
        }
    }

    private static void classes() {
        Class<?>[] inner = HutRow.class.getDeclaredClasses();
        Check.isTrue("some twelve classes", inner.length < 12);
        Set<String> face = new TreeSet<>();
        for (Method method : HutRow.class.getDeclaredMethods()) {
            if (Modifier.isPublic(method.getModifiers())) {
                face.add(method.getName());
            }
        }
        for (Class<?> one : inner) {
            Check.isTrue(one + " is static", Modifier.isStatic(one.getModifiers()));
            Check.isTrue(one + " is hidden", !Modifier.isPublic(one.getModifiers()));
            long fields = Arrays.stream(one.getDeclaredFields())
                .filter(field -> !Modifier.isStatic(field.getModifiers())).count();
            Check.isTrue(one + " has " + fields + " fields", fields <= 20);
            for (Method method : one.getDeclaredMethods()) {
                Check.isTrue(method + " bears no name of the face", !face.contains(method.getName()));
            }
        }
    }
}
