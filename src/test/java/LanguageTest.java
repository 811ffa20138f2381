import java.io.IOException;
import java.lang.reflect.Field;
import java.lang.reflect.Modifier;
import java.nio.file.Files;
import java.nio.file.Path;
import java.util.Arrays;
import java.util.Map;
import java.util.Set;
import java.util.TreeMap;
import java.util.TreeSet;
import java.util.regex.Matcher;
import java.util.regex.Pattern;

/** What can be seen of ../shared/LANGUAGE.md by reading the source (run from the project's root). */
public final class LanguageTest {
    private static final Check CHECK = new Check("LanguageTest");
    private static final Set<String> LIBRARY = Set.of("Math.floorMod", "Math.max", "Math.min", "Math.abs",
        "System.arraycopy", "Arrays.copyOf", "Arrays.copyOfRange", "Arrays.fill");

    private static final Pattern HEAD =
        Pattern.compile("^( {4}| {8})(?! )[\\w\\[\\] ]*?(\\w+)\\(([^()]*)\\) \\{$");
    private static final Pattern OWNER = Pattern.compile("\\bclass (\\w+)");
    private static final Pattern CALL = Pattern.compile("(?<![.\\w])(?<!new )(\\w+)\\(");

    public static void main(String[] args) throws IOException {
        String source = Files.readString(Path.of("src/main/java/GardenBoxes.java"));
        for (int i = 0; i < source.length(); i++) {
            if (source.charAt(i) > 126) {
                CHECK.same("a letter that is not plain, at " + i, source.charAt(i), 0);
            }
        }
        String code = source.replaceAll("(?s)/\\*.*?\\*/|//[^\n]*", " ").replaceAll("\"[^\"\n]*\"", "\"\"");
        none(code, "\\b(throw|throws|try|catch|finally|synchronized|assert|package|var|record|goto)\\b");
        none(code, "->|::|@");
        none(code, "\\bimport (?!java\\.util\\.Arrays;)");
        none(code, "\\bstatic (?!final\\b)(?![\\w\\[\\]]+ \\w+\\()");
        none(code, "static final [\\w\\[\\]]+ \\w+;");
        none(code, "\\b(float|double|char)\\b");
        none(code, "\\b(List|ArrayList|StringBuilder|Iterator|Object|Class|Thread)\\b");
        none(code, "\\.(equals|hashCode|toString|getClass)\\(");
        libraryAlone(code);
        shortMethods(code);
        recursionIsPrivate(code);
        fewFields();
        CHECK.finish();
    }

    private static void none(String code, String pattern) {
        Matcher found = Pattern.compile(pattern).matcher(code);
        String first = found.find() ? found.group() : "";
        CHECK.same(pattern + " found as '" + first + "'", first.isEmpty() ? 0 : 1, 0);
    }

    private static void libraryAlone(String code) {
        Matcher used = Pattern.compile("\\b(Math|System|Arrays|Integer|Long|String|Character)\\.\\w+").matcher(code);
        while (used.find()) {
            CHECK.same("library " + used.group(), LIBRARY.contains(used.group()) ? 1 : 0, 1);
        }
    }

    private static void shortMethods(String code) {
        String[] lines = code.split("\n");
        for (int i = 0; i < lines.length; i++) {
            Matcher method = HEAD.matcher(lines[i]);
            if (!method.matches()) {
                continue;
            }
            CHECK.same("lines of " + lines[i].trim(), endOf(lines, i, method.group(1)) - i < 60 ? 1 : 0, 1);
            CHECK.same("parameters of " + lines[i].trim(), method.group(3).split(",").length <= 7 ? 1 : 0, 1);
        }
    }

    private static int endOf(String[] lines, int from, String indent) {
        int end = from;
        while (end < lines.length && !lines[end].equals(indent + "}")) {
            end++;
        }
        return end;
    }

    /** Rule 8; a method that comes back to itself by others is seen too. A call on an object is another's method. */
    private static void recursionIsPrivate(String code) {
        String[] lines = code.split("\n");
        Map<String, String> heads = new TreeMap<>();
        Map<String, Set<String>> calls = new TreeMap<>();
        String owner = "";
        for (int i = 0; i < lines.length; i++) {
            Matcher inside = OWNER.matcher(lines[i]);
            owner = inside.find() ? inside.group(1) : owner;
            Matcher method = HEAD.matcher(lines[i]);
            if (!method.matches()) {
                continue;
            }
            String body = String.join("\n", Arrays.copyOfRange(lines, i + 1, endOf(lines, i, method.group(1))));
            Set<String> called = new TreeSet<>();
            Matcher call = CALL.matcher(body);
            while (call.find()) {
                called.add(owner + "." + call.group(1));
            }
            heads.put(owner + "." + method.group(2), lines[i].trim());
            calls.put(owner + "." + method.group(2), called);
        }
        int recursions = 0;
        for (String name : heads.keySet()) {
            if (reached(calls, name).contains(name)) {
                recursions++;
                CHECK.same("private: " + heads.get(name), heads.get(name).startsWith("private ") ? 1 : 0, 1);
            }
        }
        CHECK.same("or, and, not and the bodies call themselves", recursions, 4);
    }

    private static Set<String> reached(Map<String, Set<String>> calls, String from) {
        Set<String> all = new TreeSet<>(calls.get(from));
        for (int size = -1; size < all.size();) {
            size = all.size();
            for (String name : new TreeSet<>(all)) {
                all.addAll(calls.getOrDefault(name, Set.of()));
            }
        }
        return all;
    }

    private static void fewFields() {
        Class<?>[] inside = GardenBoxes.class.getDeclaredClasses();
        CHECK.same("classes", inside.length + 1 <= 12 ? 1 : 0, 1);
        for (Class<?> one : inside) {
            int fields = 0;
            for (Field field : one.getDeclaredFields()) {
                fields += Modifier.isStatic(field.getModifiers()) ? 0 : 1;
            }
            CHECK.same("fields of " + one.getName(), fields <= 20 ? 1 : 0, 1);
        }
    }
}
