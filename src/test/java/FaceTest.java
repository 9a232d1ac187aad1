import java.lang.reflect.Constructor;
import java.lang.reflect.Field;
import java.lang.reflect.Method;
import java.lang.reflect.Modifier;
import java.nio.charset.StandardCharsets;
import java.nio.file.Files;
import java.nio.file.Path;
import java.util.Arrays;
import java.util.List;
import java.util.Set;
import java.util.TreeSet;
import java.util.regex.Matcher;
import java.util.regex.Pattern;

/** The public face of the document, and those rules of ../shared/LANGUAGE.md that a test can look at. */
final class FaceTest {
    private static final Path SOURCE = Path.of("src/main/java/PhaseTones.java");

    private static final List<String> FACE = List.of(
        "int clip(int)", "int fill(int,int,int)", "int step(int,int)", "int table(int,int)", "int volume(int,int)",
        "int turn(int,boolean)", "int phase(int,int)", "int sweep(int,int,int)", "int make(int)", "int run()",
        "int wheel(int,int)", "int valueOf(int,int)", "int sample(int)", "int beat(int,int)", "int count(int)",
        "int ifMade(int,int)", "int untilClip()", "int bestStep(int,int)", "int untilRound(int)", "int put(long)",
        "int wipe()", "int fault()", "int undo()", "int save(int)", "int restore(int)");

    public static void main(String[] args) throws Exception {
        methods();
        constantsAndFields();
        classesInside();
        text(Files.readString(SOURCE, StandardCharsets.ISO_8859_1));
        Due.end();
    }

    private static String signature(Method method) {
        StringBuilder text = new StringBuilder();
        text.append(method.getReturnType().getSimpleName()).append(' ').append(method.getName()).append('(');
        for (Class<?> type : method.getParameterTypes()) {
            text.append(text.charAt(text.length() - 1) == '(' ? "" : ",").append(type.getSimpleName());
        }
        return text.append(')').toString();
    }

    private static void methods() {
        Set<String> found = new TreeSet<>();
        for (Method method : PhaseTones.class.getDeclaredMethods()) {
            if (Modifier.isPublic(method.getModifiers())) {
                found.add(signature(method));
                Due.isTrue(method + " is not static", !Modifier.isStatic(method.getModifiers()));
            } else {
                Due.isTrue(method + " is private", Modifier.isPrivate(method.getModifiers()));
            }
        }
        Due.isTrue("the methods are those of the document: " + found, found.equals(new TreeSet<>(FACE)));
        Constructor<?>[] constructors = PhaseTones.class.getDeclaredConstructors();
        Due.is("constructors", constructors.length, 1);
        Due.isTrue("the constructor is public", Modifier.isPublic(constructors[0].getModifiers()));
        Due.is("its parameters", constructors[0].getParameterCount(), 0);
        int modifiers = PhaseTones.class.getModifiers();
        Due.isTrue("the class is public and final", Modifier.isPublic(modifiers) && Modifier.isFinal(modifiers));
    }

    private static void constantsAndFields() {
        Set<String> found = new TreeSet<>();
        for (Field field : PhaseTones.class.getDeclaredFields()) {
            int modifiers = field.getModifiers();
            if (Modifier.isPublic(modifiers)) {
                found.add(field.getName());
                Due.isTrue(field + " is a constant", Modifier.isStatic(modifiers) && Modifier.isFinal(modifiers));
            } else {
                Due.isTrue(field + " is private", Modifier.isPrivate(modifiers));
            }
            Due.isTrue(field + " is final if static", !Modifier.isStatic(modifiers) || Modifier.isFinal(modifiers));
        }
        Set<String> want = new TreeSet<>(
            Arrays.asList("NO_SUCH", "BAD_VALUE", "BAD_TEXT", "TOO_MANY", "NOT_POSSIBLE", "NONE"));
        Due.isTrue("the constants are those of the document", found.equals(want));
    }

    private static void classesInside() {
        Set<String> names = new TreeSet<>();
        for (Method method : PhaseTones.class.getDeclaredMethods()) {
            if (Modifier.isPublic(method.getModifiers())) {
                names.add(method.getName());
            }
        }
        Class<?>[] inside = PhaseTones.class.getDeclaredClasses();
        Due.isTrue("some twelve classes at most", inside.length + 1 <= 12);
        for (Class<?> one : inside) {
            Due.isTrue(one + " is static", Modifier.isStatic(one.getModifiers()));
            Due.isTrue(one + " is not public", !Modifier.isPublic(one.getModifiers()));
            Due.isTrue(one + " has some twenty fields at most", one.getDeclaredFields().length <= 20);
            for (Method method : one.getDeclaredMethods()) {
                Due.isTrue(method + " has no name of the face", !names.contains(method.getName()));
            }
        }
    }

    private static void text(String source) {
        for (int i = 0; i < source.length(); i++) {
            if (source.charAt(i) > 126) {
                Due.is("code of the character " + i, source.charAt(i), 126);
            }
        }
        String code = source.replaceAll("(?s)/\\*.*?\\*/", "").replaceAll("//[^\n]*", "").replaceAll("'.'", "' '");
        String[] banned = {
            "package", "import", "throw", "throws", "try", "catch", "synchronized", "assert", "native", "volatile", "float", "double",
            "System.out", "Exception", "yield", "record", "Object",
        };
        for (String word : banned) {
            Due.isTrue("there is no " + word, !Pattern.compile("\\b" + Pattern.quote(word) + "\\b").matcher(code).find());
        }
        Due.isTrue("there is no lambda", !code.contains("->"));
        Due.isTrue("there is no method reference", !code.contains("::"));
        Due.isTrue("there is no annotation", !code.contains("@"));
        Due.isTrue("there is no text", !code.contains("\""));
        lengthsOfMethods(source);
    }

    private static void lengthsOfMethods(String source) {
        Matcher method = Pattern.compile("(?m)^( +)[^\\s/*][^\\n;=]*\\) \\{\\n(?:.*\\n)*?\\1\\}\\n").matcher(source);
        int methods = 0;
        while (method.find()) {
            methods++;
            String text = method.group();
            long lines = text.chars().filter(c -> c == '\n').count();
            Due.isTrue(text.substring(0, text.indexOf('\n')).trim() + " is short", lines <= 60);
        }
        Due.isTrue("methods are found", methods > 40);
    }
}
