import java.lang.reflect.InvocationTargetException;
import java.lang.reflect.Method;
import java.nio.charset.StandardCharsets;
import java.nio.file.Files;
import java.nio.file.Path;
import java.util.ArrayList;
import java.util.Comparator;
import java.util.HashMap;
import java.util.List;
import java.util.Map;

/**
 * The boundary cases of the document, sentence by sentence: runs each method that bears the sign Says, in
 * the classes named here, and tells of one that fails which promise and which sentence does not hold.
 * With the name of a method behind it, only that one.
 */
final class BoundaryTest {
    private static final Path DOCUMENT = Path.of("../shared/DOC.md");

    private static final List<Class<?>> GROUPS = List.of(
        TermsBoundaries.class, SampleBoundaries.class, ChangesBoundaries.class, QuestionsBoundaries.class,
        WhatIfBoundaries.class, TextsBoundaries.class, HistoryBoundaries.class);

    public static void main(String[] args) throws Exception {
        List<Method> tests = new ArrayList<>();
        for (Class<?> group : GROUPS) {
            for (Method method : group.getDeclaredMethods()) {
                if (method.isAnnotationPresent(Says.class) && (args.length == 0 || args[0].equals(method.getName()))) {
                    tests.add(method);
                }
            }
        }
        tests.sort(Comparator.comparing(Method::toString));
        for (Method test : tests) {
            runOne(test);
        }
        if (args.length == 0) {
            compareWithDocument(tests);
        }
        System.out.println(tests.size() + " boundary cases");
        Due.end();
    }

    private static void runOne(Method test) throws IllegalAccessException {
        int asked = Due.askedSoFar();
        int wrong = Due.wrongSoFar();
        try {
            test.invoke(null);
        } catch (InvocationTargetException e) {
            Due.isTrue(test.getName() + " without " + e.getCause(), false);
        }
        Due.isTrue(test.getName() + " asks for an answer", Due.askedSoFar() > asked);
        if (Due.wrongSoFar() > wrong) {
            Says says = test.getAnnotation(Says.class);
            System.out.println("^ " + test.getName() + ", of " + says.in() + ": \"" + says.sentence() + "\"");
        }
    }

    /** Each sentence that a test names has to stand in the document, and each of the promises needs tests. */
    private static void compareWithDocument(List<Method> tests) throws Exception {
        if (!Files.exists(DOCUMENT)) {
            System.out.println("there is no " + DOCUMENT + ": the sentences are not compared with it");
            return;
        }
        Map<String, String> sections = sectionsOf(Files.readString(DOCUMENT, StandardCharsets.UTF_8));
        Map<String, List<String>> sentences = new HashMap<>();
        for (Method test : tests) {
            Says says = test.getAnnotation(Says.class);
            boolean isThere = sections.containsKey(says.in()) && sections.get(says.in()).contains(says.sentence());
            Due.isTrue(test.getName() + ": the document says in " + says.in() + " \"" + says.sentence() + "\"", isThere);
            sentences.computeIfAbsent(says.in(), heading -> new ArrayList<>()).add(says.sentence());
        }
        for (Map.Entry<String, String> section : sections.entrySet()) {
            if (section.getKey().startsWith("Promise ")) {
                List<String> named = sentences.getOrDefault(section.getKey(), List.of());
                duePartsNamed(section.getKey(), section.getValue(), named);
            }
        }
    }

    /** The text of each section, by its heading; sections end at the next heading of any depth. */
    private static Map<String, String> sectionsOf(String document) {
        Map<String, String> sections = new HashMap<>();
        String heading = "";
        for (String line : document.split("\n")) {
            if (line.startsWith("#")) {
                heading = line.replaceFirst("^#+ *", "").trim();
            }
            sections.merge(heading, line + "\n", String::concat);
        }
        return sections;
    }

    /** What a promise says of its parameters, and of each of its errors, needs a test that names it. */
    private static void duePartsNamed(String heading, String text, List<String> named) {
        for (String line : text.split("\n")) {
            for (String part : line.startsWith("- ") ? new String[] {line} : line.split("; ")) {
                if (part.startsWith("- ") || part.matches("[A-Z_]+ if .*")) {
                    boolean isNamed = named.stream().anyMatch(sentence -> sentence.contains(part) || part.contains(sentence));
                    Due.isTrue(heading + ": there is a test of \"" + part + "\"", isNamed);
                }
            }
        }
        Due.isTrue(heading + ": there is a test of it", !named.isEmpty());
    }
}
