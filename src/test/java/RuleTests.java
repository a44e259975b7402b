import java.io.IOException;
import java.lang.management.ManagementFactory;
import java.lang.reflect.Field;
import java.lang.reflect.Method;
import java.lang.reflect.Modifier;
import java.nio.file.Files;
import java.nio.file.Path;
import java.util.ArrayList;
import java.util.List;
import java.util.Set;
import java.util.TreeSet;
import java.util.regex.Matcher;
import java.util.regex.Pattern;

/** The rules of ../shared/LANGUAGE.md that can be seen in the source, in the members, or in what the calls make. */
public final class RuleTests {
    private static final com.sun.management.ThreadMXBean THREADS =
        (com.sun.management.ThreadMXBean) ManagementFactory.getThreadMXBean();
    private static final Path SOURCE = Path.of("src/main/java/LinkElection.java");
    private static final String[] NOT_ALLOWED = {
        "->", "::", "\\b(package|finally|synchronized|assert|protected|volatile|transient|native|strictfp|float|double)\\b",
        "\\b(try|catch|instanceof|Object|Class|Thread|Throwable|Exception|Error|RuntimeException)\\b",
        "\\b(equals|hashCode|toString|getMessage|getClass|currentTimeMillis|nanoTime|random)\\b", "@", "Exact\\(",
    };

    public static void main(String[] args) throws IOException {
        String code = withoutCommentsAndTexts(Files.readString(SOURCE));
        signsAreAscii();
        wordsOfTheRules(code);
        libraryOfTheRules(code);
        exceptionsOfTheRules(code);
        methodsAreShort(code);
        members();
        room();
        Kit.end("RuleTests");
    }

    private static String withoutCommentsAndTexts(String source) {
        return source.replaceAll("(?s)/\\*.*?\\*/", "").replaceAll("//[^\n]*", "").replaceAll("\"[^\"\n]*\"", "\"\"")
            .replaceAll("'[^'\n]*'", "' '");
    }

    private static Set<String> found(String code, String pattern) {
        Set<String> all = new TreeSet<>();
        Matcher matcher = Pattern.compile(pattern).matcher(code);
        while (matcher.find()) {
            all.add(matcher.group());
        }
        return all;
    }

    private static void signsAreAscii() throws IOException {
        for (byte sign : Files.readAllBytes(SOURCE)) {
            if (sign < 1) {
                Kit.due("a sign of the source", sign, 1);
            }
        }
    }

    private static void wordsOfTheRules(String code) {
        for (String pattern : NOT_ALLOWED) {
            Kit.dueText("what the source holds of " + pattern, found(code, pattern).toString(), "[]");
        }
    }

    private static void libraryOfTheRules(String code) {
        Kit.dueText("imports", found(code, "import [^;]*").toString(), "[import java.util.Arrays]");
        Set<String> allowed = Set.of("Arrays.copyOf", "Arrays.fill", "Math.max", "Math.min", "System.arraycopy");
        Set<String> used = found(code.replaceAll("import [^;]*;", ""), "\\b(Arrays|Math|System|Integer|Long)\\.\\w+");
        used.removeAll(allowed);
        Kit.dueText("calls of the library beside those of the rules", used.toString(), "[]");
    }

    private static void exceptionsOfTheRules(String code) {
        Set<String> thrown = found(code, "throw [^;(]*");
        thrown.removeAll(Set.of("throw new IllegalArgumentException", "throw new IllegalStateException",
            "throw new IndexOutOfBoundsException"));
        Kit.dueText("what is thrown beside the document's exceptions", thrown.toString(), "[]");
        Kit.dueText("a throw in a constructor", found(code, "(?s)\\b(public|private) [A-Z]\\w*\\([^{;]*\\{[^}]*throw").toString(),
            "[]");
    }

    private static void methodsAreShort(String code) {
        int depth = 0;
        int lines = 0;
        for (String line : code.split("\n")) {
            int opened = line.length() - line.replace("{", "").length();
            int closed = line.length() - line.replace("}", "").length();
            boolean head = line.matches("    (    )?(public|private) .*\\(.*\\{") && !line.contains("class ");
            if (head) {
                depth = 0;
                lines = 0;
            }
            depth += opened - closed;
            lines++;
            if (depth == 0 && closed > 0 && lines > 60) {
                Kit.due("lines of the method that ends with " + line, lines, 60);
            }
            Kit.due("signs in the line " + line, Math.max(line.length(), 120), 120);
        }
    }

    private static void members() {
        List<Class<?>> all = new ArrayList<>(List.of(LinkElection.class.getDeclaredClasses()));
        all.add(LinkElection.class);
        Kit.due("classes", Math.max(all.size(), 12), 12);
        Set<String> face = new TreeSet<>();
        for (Method method : LinkElection.class.getDeclaredMethods()) {
            if (Modifier.isPublic(method.getModifiers())) {
                face.add(method.getName());
            }
        }
        for (Class<?> one : all) {
            fieldsOf(one);
            methodsOf(one, face);
        }
    }

    private static void fieldsOf(Class<?> one) {
        int count = 0;
        for (Field field : one.getDeclaredFields()) {
            if (!Modifier.isStatic(field.getModifiers())) {
                count++;
            } else {
                Kit.due(field + " is final", Modifier.isFinal(field.getModifiers()) ? 1 : 0, 1);
                Kit.dueText(field + " is a number", field.getType().getSimpleName(), "int");
            }
        }
        Kit.due("fields of " + one, Math.max(count, 20), 20);
    }

    private static void methodsOf(Class<?> one, Set<String> face) {
        for (Method method : one.getDeclaredMethods()) {
            Kit.due("parameters of " + method, Math.max(method.getParameterCount(), 7), 7);
            boolean isOpen = Modifier.isPublic(method.getModifiers());
            Kit.due(method + " bears the name of a public one", !isOpen && face.contains(method.getName()) ? 1 : 0, 0);
        }
    }

    /** What 512 calls may make stays far below the room for all objects, whose elements have 8 bytes at the most. */
    private static void room() {
        String small = "link;library a 1;";
        StringBuilder large = new StringBuilder("link;weight 1");
        while (large.length() < 797) {
            large.append("+1");
        }
        large.append(';');
        madeBy(small);
        long made = madeBy(small);
        Kit.due("bytes made by loads of short texts", Math.max(made, 200_000), 200_000);
        made = madeBy(large.toString());
        Kit.due("bytes made by loads of long texts", Math.max(made, 200_000), 200_000);
        LinkElection x = Kit.made("link;name n;library a 1;library b 2;offer a n to n;offer b n 1;prefer a b;");
        othersMake(x);
        Kit.due("bytes made by the other calls", Math.max(othersMake(x), 500), 500);
    }

    /** The bytes that an object makes behind its constructor, if it loads this text as often as it may. */
    private static long madeBy(String text) {
        LinkElection x = new LinkElection();
        int[] words = new int[(text.length() + 19) / 20 * 5];
        for (int i = 0; i < words.length * 4; i++) {
            words[i / 4] = words[i / 4] << 8 | (i < text.length() ? text.charAt(i) : ' ');
        }
        long before = made();
        int calls = 0;
        while (calls + words.length / 5 + 1 <= 512) {
            for (int i = 0; i < words.length; i += 5) {
                x.append(words[i], words[i + 1], words[i + 2], words[i + 3], words[i + 4]);
                calls++;
            }
            x.load(text.length());
            calls++;
        }
        return made() - before;
    }

    private static long othersMake(LinkElection x) {
        long before = made();
        for (int i = 0; i < 12; i++) {
            x.unload(0);
            x.reload(0);
            x.offerForward(0, 0, 0);
            x.setShare(i);
            x.setKeeps(0, i % 2 == 0);
            x.setTrust(1, i);
            x.undo();
            x.checksum();
            x.call(1, 0);
            x.steps(0, 0);
            x.users(1, 0);
            x.minority(0);
        }
        return made() - before;
    }

    private static long made() {
        return THREADS.getCurrentThreadAllocatedBytes();
    }
}
