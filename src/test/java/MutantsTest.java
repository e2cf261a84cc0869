import java.io.ByteArrayOutputStream;
import java.io.IOException;
import java.io.OutputStream;
import java.io.PrintStream;
import java.lang.reflect.Method;
import java.net.URI;
import java.nio.charset.StandardCharsets;
import java.nio.file.Files;
import java.nio.file.Path;
import java.util.ArrayList;
import java.util.LinkedHashMap;
import java.util.List;
import java.util.Map;
import java.util.TreeSet;
import java.util.concurrent.atomic.AtomicInteger;
import java.util.regex.Matcher;
import java.util.regex.Pattern;
import java.util.stream.Collectors;
import javax.tools.FileObject;
import javax.tools.ForwardingJavaFileManager;
import javax.tools.JavaCompiler;
import javax.tools.JavaFileManager;
import javax.tools.JavaFileObject;
import javax.tools.SimpleJavaFileObject;
import javax.tools.ToolProvider;

/**
 * Breaks the class in one place at a time, as src/test/mutants.txt tells, and looks that the test named there fails.
 * A mutant whose place stands in the source no more is told, but is no failure: the source may have been mended.
 */
public final class MutantsTest {
    private static final Path SOURCE = Path.of("src/main/java/TentativeDesk.java");
    private static final Path LIST = Path.of("src/test/mutants.txt");
    private static final int SECONDS = 60;
    private static final int BROKEN = -1;
    private static final List<String> TESTS = List.of("TextBoundsTest", "WriteBoundsTest", "AnswerBoundsTest");

    private static final class Mutant {
        int line;
        String[] tests;
        final List<String> from = new ArrayList<>();
        final List<String> to = new ArrayList<>();
    }

    /** Classes of one mutant, and the tests anew beside it. */
    private static final class Loader extends ClassLoader {
        private final Map<String, byte[]> mutant;
        private final Path own;

        Loader(Map<String, byte[]> mutant, Path own) {
            super(MutantsTest.class.getClassLoader());
            this.mutant = mutant;
            this.own = own;
        }

        @Override
        protected Class<?> loadClass(String name, boolean resolve) throws ClassNotFoundException {
            synchronized (getClassLoadingLock(name)) {
                Class<?> loaded = findLoadedClass(name);
                Path file = own.resolve(name + ".class");
                if (loaded != null || name.contains(".") || !Files.exists(file)) {
                    return loaded != null ? loaded : super.loadClass(name, resolve);
                }
                try {
                    byte[] bytes = mutant.containsKey(name) ? mutant.get(name) : Files.readAllBytes(file);
                    return defineClass(name, bytes, 0, bytes.length);
                } catch (IOException e) {
                    throw new ClassNotFoundException(name, e);
                }
            }
        }
    }

    /** Keeps what is compiled. */
    private static final class Kept extends ForwardingJavaFileManager<JavaFileManager> {
        private final Map<String, ByteArrayOutputStream> classes = new LinkedHashMap<>();

        Kept(JavaFileManager files) {
            super(files);
        }

        @Override
        public JavaFileObject getJavaFileForOutput(Location where, String name, JavaFileObject.Kind kind, FileObject near) {
            return new SimpleJavaFileObject(URI.create("mem:///" + name + kind.extension), kind) {
                @Override
                public OutputStream openOutputStream() {
                    ByteArrayOutputStream out = new ByteArrayOutputStream();
                    classes.put(name, out);
                    return out;
                }
            };
        }

        Map<String, byte[]> bytes() {
            return classes.entrySet().stream().collect(Collectors.toMap(Map.Entry::getKey, e -> e.getValue().toByteArray()));
        }
    }

    private MutantsTest() {
    }

    public static void main(String[] args) throws IOException {
        String source = Files.readString(SOURCE, StandardCharsets.UTF_8);
        List<Mutant> mutants = list(args.length > 0 ? args[0] : "");
        PrintStream out = System.out;
        System.setOut(new PrintStream(OutputStream.nullOutputStream()));
        AtomicInteger wrong = new AtomicInteger();
        mutants.parallelStream().forEach(mutant -> {
            String said = fate(mutant, source);
            if (!said.isEmpty()) {
                out.println("mutants.txt, line " + mutant.line + ": " + said);
                wrong.addAndGet(said.startsWith("gone") ? 0 : 1);
            }
        });
        System.setOut(out);
        int lacking = args.length > 0 ? 0 : lacking(mutants, source);
        out.println(mutants.size() + " mutants, " + wrong.get() + " not as due, " + lacking + " tests without one");
        System.exit(wrong.get() + lacking == 0 ? 0 : 1);
    }

    /** Tests that no mutant names, names that are no tests, tests that fail though nothing is broken. */
    private static int lacking(List<Mutant> mutants, String source) {
        TreeSet<String> named = new TreeSet<>();
        mutants.forEach(mutant -> named.addAll(List.of(mutant.tests)));
        TreeSet<String> all = new TreeSet<>();
        for (String name : TESTS) {
            try {
                Remarked.of(Class.forName(name)).forEach(test -> all.add(test.getName()));
            } catch (ClassNotFoundException e) {
                all.add(name);
            }
        }
        TreeSet<String> wrong = new TreeSet<>(all);
        wrong.removeAll(named);
        named.removeAll(all);
        wrong.addAll(named);
        Map<String, byte[]> whole = compile(source);
        PrintStream out = System.out;
        System.setOut(new PrintStream(OutputStream.nullOutputStream()));
        all.stream().filter(name -> wrongIn(name, whole) != 0).forEach(wrong::add);
        System.setOut(out);
        wrong.forEach(name -> System.out.println("without a mutant, no test, or fails by itself: " + name));
        return wrong.size();
    }

    private static List<Mutant> list(String only) throws IOException {
        List<Mutant> mutants = new ArrayList<>();
        String[] tests = {};
        int number = 0;
        boolean isOpen = false;
        for (String line : Files.readAllLines(LIST, StandardCharsets.UTF_8)) {
            number++;
            if (line.startsWith("@ ")) {
                tests = line.substring(2).trim().split("[ ,]+");
            } else if (line.startsWith("- ")) {
                if (!isOpen) {
                    mutants.add(new Mutant());
                    mutants.get(mutants.size() - 1).line = number;
                    mutants.get(mutants.size() - 1).tests = tests;
                }
                mutants.get(mutants.size() - 1).from.add(line.substring(2).trim());
            } else if (line.startsWith("+")) {
                mutants.get(mutants.size() - 1).to.add(line.substring(1).trim());
            }
            isOpen = line.startsWith("- ");
        }
        mutants.removeIf(mutant -> !only.isEmpty() && !String.join(" ", mutant.tests).contains(only));
        return mutants;
    }

    /** Nothing if each of the mutant's tests fails with it. */
    private static String fate(Mutant mutant, String source) {
        Pattern place = Pattern.compile(mutant.from.stream().map(Pattern::quote).collect(Collectors.joining("\\s+")));
        Matcher found = place.matcher(source);
        if (!found.find()) {
            return "gone from the source: " + mutant.from;
        }
        String broken = source.substring(0, found.start()) + String.join("\n", mutant.to) + source.substring(found.end());
        if (found.find()) {
            return "stands more than once: " + mutant.from;
        }
        Map<String, byte[]> classes = compile(broken);
        if (classes.isEmpty()) {
            return "does not compile: " + mutant.to;
        }
        StringBuilder said = new StringBuilder();
        for (String test : mutant.tests) {
            int wrong = wrongIn(test, classes);
            if (wrong == 0 || wrong == BROKEN) {
                said.append(wrong == 0 ? "passed by " : "could not run ").append(test).append(": ").append(mutant.to);
            }
        }
        return said.toString();
    }

    private static Map<String, byte[]> compile(String source) {
        JavaCompiler compiler = ToolProvider.getSystemJavaCompiler();
        Kept kept = new Kept(compiler.getStandardFileManager(null, null, StandardCharsets.UTF_8));
        JavaFileObject file = new SimpleJavaFileObject(URI.create("mem:///TentativeDesk.java"), JavaFileObject.Kind.SOURCE) {
            @Override
            public CharSequence getCharContent(boolean ignore) {
                return source;
            }
        };
        boolean isFine = compiler.getTask(null, kept, d -> { }, List.of("-proc:none"), null, List.of(file)).call();
        return isFine ? kept.bytes() : Map.of();
    }

    /** How many answers were not due; a test that goes on without an end is one. */
    private static int wrongIn(String test, Map<String, byte[]> classes) {
        AtomicInteger wrong = new AtomicInteger(1);
        Thread thread = new Thread(() -> {
            try {
                wrong.set(countWrong(test, classes));
            } catch (ReflectiveOperationException | java.net.URISyntaxException e) {
                wrong.set(BROKEN);
            }
        });
        thread.setDaemon(true);
        thread.start();
        try {
            thread.join(SECONDS * 1000L);
        } catch (InterruptedException e) {
            Thread.currentThread().interrupt();
        }
        return wrong.get();
    }

    private static int countWrong(String test, Map<String, byte[]> classes)
        throws ReflectiveOperationException, java.net.URISyntaxException {
        Path own = Path.of(MutantsTest.class.getProtectionDomain().getCodeSource().getLocation().toURI());
        Loader loader = new Loader(classes, own);
        Method run = loader.loadClass("Remarked").getDeclaredMethod("run", Method.class);
        Method count = loader.loadClass("Due").getDeclaredMethod("wrong");
        run.setAccessible(true);
        count.setAccessible(true);
        for (String name : TESTS) {
            for (Method method : loader.loadClass(name).getDeclaredMethods()) {
                if (method.getName().equals(test)) {
                    method.setAccessible(true);
                    run.invoke(null, method);
                }
            }
        }
        return (int) count.invoke(null);
    }
}
