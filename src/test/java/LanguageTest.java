import java.io.IOException;
import java.lang.reflect.Field;
import java.lang.reflect.Modifier;
import java.nio.file.Files;
import java.nio.file.Path;
import java.util.Set;
import java.util.regex.Matcher;
import java.util.regex.Pattern;

/** What can be seen of ../shared/LANGUAGE.md by reading the source (run from the project's root). */
public final class LanguageTest {
    private static final Check CHECK = new Check("LanguageTest");
    private static final Set<String> LIBRARY = Set.of("Math.floorMod", "Math.max", "Math.min", "Math.abs",
        "System.arraycopy", "Arrays.copyOf", "Arrays.copyOfRange", "Arrays.fill", "Integer.MIN_VALUE");

    public static void main(String[] args) throws IOException {
        String source = Files.readString(Path.of("src/main/java/GardenBoxes.java"));
        for (int i = 0; i < source.length(); i++) {
            if (source.charAt(i) > 126) {
                CHECK.same("a letter that is not plain, at " + i, source.charAt(i), 0);
            }
        }
        String code = source.replaceAll("(?s)/\\*.*?\\*/|//[^\n]*", " ").replaceAll("\"[^\"\n]*\"", "\"\"");
        none(code, "\\b(throw|throws|try|catch|finally|synchronized|assert|package|var|record|goto)\\b");
        none(code, "->|::|@");
        none(code, "\\bimport (?!java\\.util\\.Arrays;)");
        none(code, "\\bstatic (?!final\\b)(?![\\w\\[\\]]+ \\w+\\()");
        none(code, "static final [\\w\\[\\]]+ \\w+;");
        none(code, "\\b(float|double|char)\\b");
        none(code, "\\b(List|ArrayList|StringBuilder|Iterator|Object|Class|Thread)\\b");
        none(code, "\\.(equals|hashCode|toString|getClass)\\(");
        libraryAlone(code);
        shortMethods(code);
        fewFields();
        CHECK.finish();
    }

    private static void none(String code, String pattern) {
        Matcher found = Pattern.compile(pattern).matcher(code);
        String first = found.find() ? found.group() : "";
        CHECK.same(pattern + " found as '" + first + "'", first.isEmpty() ? 0 : 1, 0);
    }

    private static void libraryAlone(String code) {
        Matcher used = Pattern.compile("\\b(Math|System|Arrays|Integer|Long|String|Character)\\.\\w+").matcher(code);
        while (used.find()) {
            CHECK.same("library " + used.group(), LIBRARY.contains(used.group()) ? 1 : 0, 1);
        }
    }

    private static void shortMethods(String code) {
        String[] lines = code.split("\n");
        Pattern head = Pattern.compile("^( {4}| {8})(?! )[\\w\\[\\] ]+\\(([^()]*)\\) \\{$");
        for (int i = 0; i < lines.length; i++) {
            Matcher method = head.matcher(lines[i]);
            if (!method.matches()) {
                continue;
            }
            int end = i;
            while (end < lines.length && !lines[end].equals(method.group(1) + "}")) {
                end++;
            }
            CHECK.same("lines of " + lines[i].trim(), end - i < 60 ? 1 : 0, 1);
            CHECK.same("parameters of " + lines[i].trim(), method.group(2).split(",").length <= 7 ? 1 : 0, 1);
        }
    }

    private static void fewFields() {
        Class<?>[] inside = GardenBoxes.class.getDeclaredClasses();
        CHECK.same("classes", inside.length + 1 <= 12 ? 1 : 0, 1);
        for (Class<?> one : inside) {
            int fields = 0;
            for (Field field : one.getDeclaredFields()) {
                fields += Modifier.isStatic(field.getModifiers()) ? 0 : 1;
            }
            CHECK.same("fields of " + one.getName(), fields <= 20 ? 1 : 0, 1);
        }
    }
}
