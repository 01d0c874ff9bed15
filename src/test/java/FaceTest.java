import java.io.IOException;
import java.lang.reflect.Constructor;
import java.lang.reflect.Field;
import java.lang.reflect.Member;
import java.lang.reflect.Method;
import java.lang.reflect.Modifier;
import java.nio.charset.StandardCharsets;
import java.nio.file.Files;
import java.nio.file.Path;
import java.util.ArrayList;
import java.util.Arrays;
import java.util.Collections;
import java.util.List;
import java.util.regex.Matcher;
import java.util.regex.Pattern;

/** The public face is the document's, with its exceptions, and nothing more. */
public final class FaceTest {
    private static final String I = "IndexOutOfBoundsException";
    private static final String A = "IllegalArgumentException";
    private static final String U = "UnsupportedOperationException";
    private static final String N = "NoSuchElementException";

    private static final String[] METHODS = {
        "int feed(int,int,int,int,int)", "boolean end(int)", "int text(int) " + A, "int fault()",
        "int years(int) " + A, "int person(int,int,boolean) " + A + " " + U,
        "int hut(int,int,int) " + I + " " + A + " " + U, "int event(int,int,int,int) " + I + " " + A + " " + U,
        "int sale(int,int,int,int) " + I + " " + A + " " + U, "int holder(int,int,int) " + I,
        "int since(int,int,int) " + I, "int place(int,int,int) " + I, "int about(int,int,int,int) " + I + " " + N,
        "int rent(int,int,int) " + I, "int leaves(int,int) " + I + " " + A, "int income(int,int) " + I + " " + A,
        "int waits(int,int) " + I + " " + A + " " + U, "int order(int,int,int) " + I,
        "int freed(int) " + A + " " + U, "int howLong(int,boolean) " + A, "int toll(int,int) " + I + " " + A,
        "int dodged(int) " + A, "int lift(int,int,int,int) " + I + " " + A, "void wind(int,int) " + I + " " + A,
        "int crane(int,int,int,boolean) " + I + " " + A, "void line(int,int,int) " + I + " " + A,
        "int storm(int,int) " + I + " " + A + " " + U, "int sea(int,int,boolean) " + I,
        "int level(int,int,boolean) " + I, "int flood(int,int,boolean) " + I + " " + A,
        "void lost(int,int,int) " + I + " " + A, "int plank(int,int,int) " + I + " " + A + " " + U, "long rows()",
        "int whose(int) " + I, "int photo(int,int,int) " + I + " " + A + " " + U, "int allowed(int,int) " + I,
        "int breaches(int) " + I, "int painted(int) " + I, "int thief(int) " + A + " " + U,
        "int thieves(boolean)", "void image()", "boolean back()", "int count(int)"};

    public static void main(String[] args) throws IOException {
        List<String> want = new ArrayList<>(Arrays.asList(METHODS));
        List<String> got = new ArrayList<>();
        List<String> hidden = new ArrayList<>();
        for (Method method : HutRow.class.getDeclaredMethods()) {
            if (Modifier.isPrivate(method.getModifiers())) {
                hidden.add(method.getName());
            } else if (!method.isSynthetic()) {
                Check.isTrue(method + " is public", Modifier.isPublic(method.getModifiers()));
                got.add(told(method));
            }
        }
        Collections.sort(want);
        Collections.sort(got);
        Check.due("the methods", want, () -> got);
        Path document = Path.of(System.getProperty("hutrow.document", "../shared/DOC.md"));
        if (Files.isReadable(document)) {
            Check.due("the document's methods", want, () -> methodsIn(document));
        }
        for (String method : want) {
            String name = method.substring(method.indexOf(' ') + 1, method.indexOf('('));
            Check.isTrue("no private " + name, !hidden.contains(name));
        }
        Check.isTrue("public", Modifier.isPublic(HutRow.class.getModifiers()));
        Check.isTrue("final", Modifier.isFinal(HutRow.class.getModifiers()));
        Check.due("NONE", -1, () -> HutRow.NONE);
        List<Member> open = new ArrayList<>();
        for (Field field : HutRow.class.getDeclaredFields()) {
            if (!Modifier.isPrivate(field.getModifiers()) && !field.isSynthetic()) {
                open.add(field);
            }
        }
        for (Constructor<?> made : HutRow.class.getDeclaredConstructors()) {
            open.add(made);
        }
        Check.due("fields and constructors", "[public static final int HutRow.NONE, public HutRow()]", () -> open);
        Check.close();
    }

    /** The methods of the document's face, told as those of the class are. */
    private static List<String> methodsIn(Path document) {
        List<String> methods = new ArrayList<>();
        try {
            String text = new String(Files.readAllBytes(document), StandardCharsets.UTF_8);
            Matcher row = Pattern.compile("(?m)^    public (\\w+ \\w+)\\((.*?)\\)(?: throws (.*))?;$").matcher(text);
            while (row.find()) {
                String types = row.group(2).replaceAll(" \\w+(, |$)", ",").replaceAll(",$", "");
                String thrown = row.group(3) == null ? "" : " " + row.group(3).replace(",", "");
                methods.add(row.group(1) + "(" + types + ")" + thrown);
            }
        } catch (IOException unread) {
            methods.add(unread.toString());
        }
        Collections.sort(methods);
        return methods;
    }

    private static String told(Method method) {
        StringBuilder told = new StringBuilder();
        told.append(method.getReturnType()).append(' ').append(method.getName()).append('(');
        for (int i = 0; i < method.getParameterCount(); i++) {
            told.append(i > 0 ? "," : "").append(method.getParameterTypes()[i]);
        }
        told.append(')');
        for (Class<?> thrown : method.getExceptionTypes()) {
            told.append(' ').append(thrown.getSimpleName());
        }
        return told.toString();
    }
}
