import java.io.IOException;
import java.lang.management.ManagementFactory;
import java.lang.reflect.Field;
import java.lang.reflect.Method;
import java.lang.reflect.Modifier;
import java.nio.charset.StandardCharsets;
import java.nio.file.Files;
import java.nio.file.Path;
import java.util.ArrayList;
import java.util.List;
import java.util.TreeSet;
import java.util.regex.Matcher;
import java.util.regex.Pattern;

/** What ../shared/LANGUAGE.md rules out, as far as a scan, a look at the class and a count of bytes can tell. */
public final class LanguageTest {
    private LanguageTest() {
    }

    public static void main(String[] args) throws IOException {
        String source = Files.readString(Path.of("src/main/java/TentativeDesk.java"), StandardCharsets.UTF_8);
        String code = bare(source);
        scan(source, code);
        lengths(code);
        face();
        shape();
        bytes();
        Due.end();
    }

    /** The source without comments and without what stands in quotes. */
    private static String bare(String source) {
        String s = Pattern.compile("/\\*.*?\\*/", Pattern.DOTALL).matcher(source).replaceAll(
            m -> "\n".repeat((int) m.group().chars().filter(c -> c == '\n').count()));
        s = s.replaceAll("//[^\n]*", "");
        s = s.replaceAll("\"[^\"\n]*\"", "\"\"");
        return s.replaceAll("'[^'\n]'", "'c'");
    }

    private static void scan(String source, String code) {
        Due.about("LANGUAGE.md");
        String[] words = {"throw", "throws", "try", "catch", "finally", "synchronized", "assert", "import", "package",
            "volatile", "transient", "native", "var", "instanceof", "Object", "System.out", "System.in", "Exact", "Random",
            "nanoTime", "currentTimeMillis", "Thread", "hashCode", "toString", "NaN", "sqrt", "protected", "yield"};
        for (String word : words) {
            due("word " + word, Pattern.compile("\\b" + Pattern.quote(word) + "\\b").matcher(code).find());
        }
        for (String sign : new String[] {"->", "::", "@", "...", "static {", "\t"}) {
            due("sign " + sign, code.contains(sign));
        }
        for (int i = 0; i < source.length(); i++) {
            due("character " + (int) source.charAt(i), source.charAt(i) > 126);
        }
        due("a class that is neither static nor the outer one",
            Pattern.compile("(?m)^ +(?! |private static final class)[a-z ]*\\b(class|enum|interface|record)\\b [A-Z]")
                .matcher(code).find());
        due("a loop without an end", code.contains("while (true)") || code.contains("for (;;)"));
    }

    private static void due(String what, boolean found) {
        Due.same(what, found, false);
    }

    /** No method has more than sixty lines, none more than seven parameters. */
    private static void lengths(String code) {
        String[] lines = code.split("\n", -1);
        Pattern head = Pattern.compile("^( {4}| {8})(?!.*\\b(class|new)\\b)[A-Za-z].*\\((.*)\\) \\{$");
        for (int i = 0; i < lines.length; i++) {
            Matcher m = head.matcher(lines[i]);
            if (m.find()) {
                int end = i;
                while (!lines[end].equals(m.group(1) + "}")) {
                    end++;
                }
                due("too long: " + lines[i], end - i > 60);
                due("too many parameters: " + lines[i], m.group(3).split(",").length > 7);
            }
        }
    }

    /** The public face is that of the document, word by word. */
    private static void face() throws IOException {
        String doc = Files.readString(Path.of("../shared/DOC.md"), StandardCharsets.UTF_8);
        String told = doc.substring(doc.indexOf("```java"), doc.indexOf("## Terms"));
        TreeSet<String> want = new TreeSet<>();
        Matcher m = Pattern.compile("public (int|boolean) ([a-z]+)\\(([^)]*)\\);").matcher(told);
        while (m.find()) {
            want.add(m.group(1) + " " + m.group(2) + "(" + m.group(3).replaceAll(" [a-z]+(,|$)", "$1") + ")");
        }
        TreeSet<String> got = new TreeSet<>();
        TreeSet<String> names = new TreeSet<>();
        List<Method> others = new ArrayList<>();
        for (Method method : TentativeDesk.class.getDeclaredMethods()) {
            if (!Modifier.isPublic(method.getModifiers())) {
                others.add(method);
                continue;
            }
            StringBuilder s = new StringBuilder();
            for (Class<?> type : method.getParameterTypes()) {
                s.append(s.length() > 0 ? ", " : "").append(type);
            }
            got.add(method.getReturnType() + " " + method.getName() + "(" + s + ")");
            names.add(method.getName());
        }
        Due.same("methods told", want.size(), 41);
        due("face: " + got + " is not " + want, !got.equals(want));
        for (Class<?> inner : TentativeDesk.class.getDeclaredClasses()) {
            others.addAll(List.of(inner.getDeclaredMethods()));
        }
        for (Method method : others) {
            due("a public name once more: " + method, names.contains(method.getName()));
        }
        Due.same("constructors", TentativeDesk.class.getConstructors().length, 1);
        Due.same("public final", TentativeDesk.class.getModifiers(), Modifier.PUBLIC | Modifier.FINAL);
    }

    private static void shape() {
        List<Class<?>> all = new ArrayList<>(List.of(TentativeDesk.class.getDeclaredClasses()));
        all.add(TentativeDesk.class);
        due("too many classes: " + all.size(), all.size() > 12);
        for (Class<?> one : all) {
            int fields = 0;
            for (Field field : one.getDeclaredFields()) {
                boolean isStatic = Modifier.isStatic(field.getModifiers());
                fields += isStatic ? 0 : 1;
                due("not final: " + field, isStatic && !Modifier.isFinal(field.getModifiers()));
                boolean isOpen = one == TentativeDesk.class && !Modifier.isPrivate(field.getModifiers());
                due("not private: " + field, isOpen && !field.getName().equals("NONE"));
            }
            due("too many fields: " + one + " " + fields, fields > 20);
            due("has classes inside: " + one, one != TentativeDesk.class && one.getDeclaredClasses().length > 0);
        }
        for (Method method : TentativeDesk.class.getDeclaredMethods()) {
            boolean isOpen = Modifier.isPublic(method.getModifiers()) || Modifier.isPrivate(method.getModifiers());
            due("neither public nor private: " + method, !isOpen);
        }
    }

    /** Once an object is made, no call makes another one. */
    private static void bytes() {
        com.sun.management.ThreadMXBean bean =
            (com.sun.management.ThreadMXBean) ManagementFactory.getThreadMXBean();
        String text = "copies 5;cell a 1;cell b 2;form f needs a<9*(1+x) sets a a+x else b b/x;";
        int[] bytes = Due.ints(text);
        long kept = 0;
        long least = Long.MAX_VALUE;
        for (int run = 0; run < 20; run++) {
            long ahead = bean.getCurrentThreadAllocatedBytes();
            TentativeDesk desk = new TentativeDesk();
            kept = bean.getCurrentThreadAllocatedBytes() - ahead;
            callAll(desk, bytes);
            least = Math.min(least, bean.getCurrentThreadAllocatedBytes() - ahead - kept);
        }
        due("one object has too many bytes: " + kept, kept > 100_000);
        due("calls make objects: " + least + " bytes", least > 0);
    }

    private static void callAll(TentativeDesk d, int[] f) {
        for (int i = 0; i < f.length; i += 5) {
            d.feed(f[i], f[i + 1], f[i + 2], f[i + 3], f[i + 4]);
        }
        d.back(0);
        d.read();
        d.place();
        for (int i = 0; i < 90; i++) {
            d.make(i % 5 - 1, i % 5, 0, i % 4);
            d.ask(i % 4, i % 5, i % 2);
            d.promise(i % 4, i % 16);
            d.meet(i % 5, i * 7 % 5);
            d.lead(i % 5);
            if (i % 10 == 0) {
                d.chance(3);
                d.hold(i % 3);
                d.undo();
            }
        }
        for (int a = -1; a < 61; a++) {
            for (int b = -1; b < 20; b++) {
                askAll(d, a, b);
            }
        }
        d.restore(1);
    }

    private static void askAll(TentativeDesk d, int a, int b) {
        d.cell(a, b, true);
        d.log(b, a);
        d.outcome(b, a);
        d.write(a, b);
        d.with(a);
        d.copy(a, b);
        d.vector(a, b);
        d.session(a, b);
        d.of(a, b, true);
        d.shut(a);
        d.lacks(a, b);
        d.would(a, b);
        d.differ(a, b);
        d.alike(a, b);
        d.hangs(b, a, 0);
        d.behind(a, b, 3);
        d.fork(a, b);
        d.key(a, b);
        d.share(a);
        d.setter(a, b);
        d.ahead(b, a, a + 1);
        d.may(a, true);
        d.plan(b);
        d.clash(a);
        d.soon();
        d.got(a);
        d.count(b);
        if (b < 3) {
            d.year(a, b);
        }
    }
}
