import java.io.IOException;
import java.lang.reflect.Method;
import java.nio.charset.StandardCharsets;
import java.nio.file.Files;
import java.nio.file.Path;
import java.util.ArrayList;
import java.util.LinkedHashMap;
import java.util.List;
import java.util.Map;
import java.util.TreeSet;

/** Every remark quotes the document, and no words of its terms and promises are without a test that quotes them. */
public final class RemarksTest {
    private final Map<String, String> parts = new LinkedHashMap<>();
    private final Map<String, boolean[]> quoted = new LinkedHashMap<>();

    private RemarksTest(String doc) {
        add("UP", between(doc, "", "## Terms"));
        add("I", between(doc, "==== I. ", "==== II. "));
        add("II", between(doc, "==== II. ", "==== III. "));
        add("III", between(doc, "==== III. ", "## Promise 1:"));
        for (int promise = 1; promise <= 42; promise++) {
            String next = promise < 42 ? "## Promise " + (promise + 1) + ":" : "## Not promised";
            String whole = between(doc, "## Promise " + promise + ":", next);
            add("" + promise, whole.substring(whole.indexOf("`: ") + 3));
        }
    }

    public static void main(String[] args) throws IOException {
        String doc = Files.readString(Path.of("../shared/DOC.md"), StandardCharsets.UTF_8);
        RemarksTest test = new RemarksTest(doc.replace("```text", "").replace("```", ""));
        for (Class<?> tests : List.of(TextBoundsTest.class, WriteBoundsTest.class, AnswerBoundsTest.class)) {
            test.lookAt(tests);
        }
        test.lookForTheRest();
        Due.end();
    }

    private static String between(String doc, String from, String upTo) {
        int start = doc.indexOf(from) + from.length();
        return doc.substring(start, doc.indexOf(upTo, start));
    }

    private static String oneLine(String text) {
        return text.replaceAll("\\s+", " ").trim();
    }

    private void add(String name, String text) {
        parts.put(name, oneLine(text));
        quoted.put(name, new boolean[parts.get(name).length()]);
    }

    private void lookAt(Class<?> tests) {
        Due.about(tests.getName());
        TreeSet<String> names = new TreeSet<>();
        for (Method test : Remarked.of(tests)) {
            Remark remark = test.getAnnotation(Remark.class);
            String start = String.format("promise%02d", remark.promise());
            Due.same(test.getName() + " is named by its promise " + start, test.getName().startsWith(start), true);
            Due.same(test.getName() + " stands once", names.add(test.getName()), true);
            String part = remark.terms().isEmpty() ? "" + remark.promise() : remark.terms();
            for (String words : remark.says()) {
                quote(part, words);
            }
        }
        for (Method test : tests.getDeclaredMethods()) {
            boolean lacks = test.getName().startsWith("promise") && !test.isAnnotationPresent(Remark.class);
            Due.same(test.getName() + " lacks a remark", lacks, false);
        }
    }

    private void quote(String part, String words) {
        String text = parts.getOrDefault(part, "");
        int at = text.indexOf(words);
        Due.same("the words \"" + words + "\" stand in " + part, at >= 0, true);
        for (; at >= 0; at = text.indexOf(words, at + 1)) {
            for (int i = 0; i < words.length(); i++) {
                quoted.get(part)[at + i] = true;
            }
        }
    }

    private void lookForTheRest() {
        Due.about("words of the document that no test quotes");
        for (String part : parts.keySet()) {
            if (!part.equals("UP")) {
                Due.same(part + ": " + restOf(part), restOf(part).isEmpty(), true);
            }
        }
    }

    private List<String> restOf(String part) {
        List<String> rest = new ArrayList<>();
        StringBuilder words = new StringBuilder();
        String text = parts.get(part) + " ";
        for (int i = 0; i < text.length(); i++) {
            if (i < text.length() - 1 && !quoted.get(part)[i]) {
                words.append(text.charAt(i));
                continue;
            }
            if (words.chars().anyMatch(Character::isLetterOrDigit)) {
                rest.add(words.toString().trim());
            }
            words.setLength(0);
        }
        return rest;
    }
}
