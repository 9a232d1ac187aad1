import java.lang.reflect.Method;
import java.nio.charset.StandardCharsets;
import java.nio.file.Files;
import java.nio.file.Path;
import java.util.ArrayList;
import java.util.List;
import java.util.Set;
import java.util.TreeSet;
import java.util.regex.Matcher;
import java.util.regex.Pattern;

/** README.md tells what holds: its examples are done, its calls and errors compared with the document. */
final class ReadmeTest {
    private static final Path README = Path.of("README.md");
    private static final Path DOCUMENT = Path.of("../shared/DOC.md");

    private static final Pattern EXAMPLE = Pattern.compile("(?m)^tones\\.(\\w+)\\(([^)]*)\\);\\s*// -> (-?\\d+) .*$");
    private static final Pattern CONSTANT = Pattern.compile("(?m)^\\| `([A-Z_]+)` \\| (-\\d+) \\| \\S.* \\|$");
    private static final Pattern CALL = Pattern.compile("(?m)^\\| `(\\w+)\\(([^)]*)\\)` \\| \\S.* \\| ([A-Z_, ]*)\\|$");
    private static final Pattern ORDER = Pattern.compile("(?m)^\\| `([0-9.][^`]*)` \\| `(\\w+)\\(([^)]*)\\)` \\|$");
    private static final Pattern CODE = Pattern.compile("\\b(NO_SUCH|BAD_VALUE|BAD_TEXT|TOO_MANY|NOT_POSSIBLE|NONE)\\b");

    public static void main(String[] args) throws Exception {
        String readme = Files.readString(README, StandardCharsets.UTF_8);
        examples(readme);
        constants(readme);
        calls(readme);
        orders(readme);
        classes(readme);
        Due.end();
    }

    private static void examples(String readme) throws Exception {
        PhaseTones tones = new PhaseTones();
        int found = 0;
        Matcher example = EXAMPLE.matcher(readme);
        while (example.find()) {
            found++;
            Due.is("in README.md " + example.group(), answer(tones, example.group(1), example.group(2)), Long.parseLong(example.group(3)));
        }
        Due.is("each line with a call is an example with an answer", found, linesWith(readme, "tones."));
        Due.isTrue("there are examples", found > 10);
    }

    private static int linesWith(String text, String start) {
        return (int) text.lines().filter(line -> line.startsWith(start)).count();
    }

    private static Method methodOf(String name) {
        for (Method method : PhaseTones.class.getMethods()) {
            if (method.getDeclaringClass() == PhaseTones.class && method.getName().equals(name)) {
                return method;
            }
        }
        throw new IllegalArgumentException("there is no call " + name);
    }

    private static int answer(PhaseTones tones, String name, String arguments) throws Exception {
        Method method = methodOf(name);
        Class<?>[] types = method.getParameterTypes();
        Object[] values = new Object[types.length];
        String[] texts = arguments.isEmpty() ? new String[0] : arguments.split(", ");
        Due.is("arguments of " + name, texts.length, types.length);
        for (int i = 0; i < texts.length; i++) {
            values[i] = value(types[i], texts[i]);
        }
        return (Integer) method.invoke(tones, values);
    }

    private static Object value(Class<?> type, String text) {
        if (type == boolean.class) {
            return Boolean.valueOf(text);
        }
        return type == long.class ? (Object) Long.decode(text.replaceFirst("L$", "")) : (Object) Integer.decode(text);
    }

    private static void constants(String readme) throws Exception {
        Set<String> named = new TreeSet<>();
        Matcher constant = CONSTANT.matcher(readme);
        while (constant.find()) {
            named.add(constant.group(1));
            int number = PhaseTones.class.getField(constant.group(1)).getInt(null);
            Due.is("in README.md " + constant.group(), Long.parseLong(constant.group(2)), number);
        }
        Due.is("the constants that README.md names", named.size(), PhaseTones.class.getFields().length);
    }

    private static void calls(String readme) throws Exception {
        String document = Files.exists(DOCUMENT) ? Files.readString(DOCUMENT, StandardCharsets.UTF_8) : "";
        if (document.isEmpty()) {
            System.out.println("there is no " + DOCUMENT + ": the errors in README.md are not compared with it");
        }
        Set<String> named = new TreeSet<>();
        Matcher call = CALL.matcher(readme);
        while (call.find()) {
            String head = call.group(1) + "(" + call.group(2) + ")";
            Due.isTrue("README.md names " + head + " once", named.add(call.group(1)));
            if (!document.isEmpty()) {
                Due.isTrue("the document names " + head, document.contains("`int " + head + "`"));
                List<String> want = codesOf(promiseOf(document, head));
                Due.isTrue("README.md names the errors " + want + " of " + head, codesOf(call.group(3)).equals(want));
            }
        }
        int calls = 0;
        for (Method method : PhaseTones.class.getMethods()) {
            if (method.getDeclaringClass() == PhaseTones.class) {
                calls++;
                Due.isTrue("README.md names " + method.getName(), named.contains(method.getName()));
            }
        }
        Due.is("the calls that README.md names", named.size(), calls);
    }

    /** What the document says from a promise's own line to the next heading. */
    private static String promiseOf(String document, String head) {
        int from = document.indexOf("`int " + head + "`");
        int to = document.indexOf("\n#", from);
        return from < 0 ? "" : document.substring(from, to < 0 ? document.length() : to);
    }

    private static List<String> codesOf(String text) {
        List<String> codes = new ArrayList<>();
        Matcher code = CODE.matcher(text);
        while (code.find()) {
            codes.add(code.group());
        }
        return codes;
    }

    /** An order of the table does what the call beside it does. */
    private static void orders(String readme) throws Exception {
        int found = 0;
        Matcher order = ORDER.matcher(readme);
        while (order.find()) {
            found++;
            PhaseTones byText = new PhaseTones();
            Due.putText(byText, order.group(1));
            Due.is("run() of " + order.group(1), byText.run(), 1);
            PhaseTones byCall = new PhaseTones();
            answer(byCall, order.group(2), order.group(3));
            Due.isTrue(order.group(1) + " does " + order.group(2), Due.soundOf(byText).equals(Due.soundOf(byCall)));
        }
        Due.is("orders with a call beside them", found, 5);
    }

    /** Each test of the project is named, with what it tests. */
    private static void classes(String readme) throws Exception {
        try (var files = Files.list(Path.of("src/test/java"))) {
            for (Path file : (Iterable<Path>) files::iterator) {
                String name = file.getFileName().toString().replace(".java", "");
                if (name.endsWith("Test") || name.endsWith("Boundaries")) {
                    Due.isTrue("README.md names " + name, readme.contains("| " + name + " |"));
                }
            }
        }
    }
}
