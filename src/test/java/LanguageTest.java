import java.nio.file.Files;
import java.nio.file.Path;
import java.util.ArrayList;
import java.util.List;
import java.util.Set;
import java.util.TreeSet;
import java.util.regex.Matcher;
import java.util.regex.Pattern;

/** The rules of LANGUAGE.md that can be measured in the source; FaceTest has the face and its words. */
public final class LanguageTest {
    private static final Set<String> LIBRARY = Set.of("Integer.compare", "Integer.max", "Integer.min",
            "Integer.bitCount", "Math.max", "Math.min", "Math.abs", "Math.floorDiv", "Math.floorMod",
            "Arrays.fill", "Arrays.copyOf", "Arrays.copyOfRange", "System.arraycopy");
    private static final Set<String> IMPORTS = Set.of("java.util.Arrays",
            "java.util.NoSuchElementException");
    private static final Set<String> THROWN = Set.of("IllegalArgumentException",
            "NoSuchElementException");
    private static final Set<String> STATIC_TYPES = Set.of("int", "long", "boolean", "char", "String");
    private static final String INDENT = "(?m)^( {4}| {8})";

    private LanguageTest() {
    }

    public static void main(String[] args) throws Exception {
        String raw = Files.readString(Path.of("src/main/java/StrangeKnives.java"));
        String code = withoutComments(raw);
        library(code);
        statics(code);
        exceptions(code);
        shapes(code);
        methods(code);
        fields(code);
        Checks.finish();
    }

    /** No text in the source holds a slash, so that comments can be told by their signs. */
    private static String withoutComments(String raw) {
        Checks.due("a text with two slashes", Pattern.compile("\"[^\"\\n]*//[^\"\\n]*\"").matcher(raw).find(),
                false);
        return raw.replaceAll("(?s)/\\*.*?\\*/", "").replaceAll("//[^\\n]*", "");
    }

    private static List<String> all(String pattern, String code) {
        List<String> found = new ArrayList<>();
        Matcher matcher = Pattern.compile(pattern).matcher(code);
        while (matcher.find()) {
            found.add(matcher.group(matcher.groupCount() > 0 ? 1 : 0));
        }
        return found;
    }

    private static void library(String code) {
        Checks.sentence("4. The library: only what stands here.");
        for (String used : all("\\b(?:Integer|Long|Math|Arrays|System|Character|Objects)\\.\\w+", code)) {
            Checks.due(used, LIBRARY.contains(used), true);
        }
        for (String used : all("import ([^;]+);", code)) {
            Checks.due("import " + used, IMPORTS.contains(used), true);
        }
        for (String made : all("\\bnew (\\w+)\\(", code)) {
            boolean own = code.contains("private static final class " + made + " ");
            Checks.due("new " + made, own || THROWN.contains(made), true);
        }
    }

    private static void statics(String code) {
        Checks.sentence("5. Static fields are final");
        for (String line : all("(?m)^(.*\\bstatic\\b.*[;=].*)$", code)) {
            Matcher field = Pattern.compile("static final (\\w+) [A-Z_]+ = ").matcher(line);
            Checks.due(line, field.find() && STATIC_TYPES.contains(field.group(1)), true);
        }
        Checks.due("static blocks", all("static \\{", code).size(), 0);
    }

    private static void exceptions(String code) {
        Checks.sentence("6. Exceptions");
        for (String thrown : all("\\bthrow ([^;]*);", code)) {
            Matcher made = Pattern.compile("new (\\w+)\\(\"[^\"]+\"\\)").matcher(thrown);
            Checks.due("throw " + thrown, made.matches() && THROWN.contains(made.group(1)), true);
        }
    }

    private static void shapes(String code) {
        Checks.sentence("9. Every loop has an end that can be seen from its own lines");
        Checks.due("while", all("\\bwhile\\b", code).size(), 0);
        Checks.due("endless for", all("for \\(\\s*;\\s*;", code).size(), 0);
        Checks.sentence("10. joining texts by StringBuilder (not by +)");
        Checks.due("texts joined by +", all("\"\\s*\\+(?!\\-)|\\+\\s*\"", code).size(), 0);
        Checks.sentence("11. the file has at most some twelve classes");
        Checks.due("classes", all("\\b(?:class|interface|enum|record) [A-Z]", code).size() <= 12, true);
        Checks.sentence("12. An object may be made by any method, and none in a loop without a bound.");
        Checks.due("rows are made by fields alone", all("(?m)^.*\\bnew \\w+\\[", code).size(),
                all(INDENT + "(?:private )?final \\w+\\[\\] \\w+ = new \\w+\\[", code).size());
    }

    /** From the line that opens a method to the bracket that stands below its first letter. */
    private static void methods(String code) {
        Checks.sentence("11. Methods stay short (some sixty lines)");
        String head = INDENT + "(?:(?:public|private|static) )*\\w+(?:\\[\\])? (\\w+)\\([^;{]*\\{\\n";
        Matcher method = Pattern.compile(head).matcher(code);
        int many = 0;
        while (method.find()) {
            int end = code.indexOf("\n" + method.group(1) + "}", method.end() - 1);
            String body = code.substring(method.end(), Math.max(method.end(), end));
            Checks.due(method.group(2) + " is short", body.split("\n").length <= 60, true);
            many++;
        }
        Checks.due("methods are found", many > 100, true);
    }

    private static void fields(String code) {
        Checks.sentence("11. a class some twenty fields beside its constants");
        Set<String> classes = new TreeSet<>();
        String[] parts = code.split("private static final class ");
        for (int i = 0; i < parts.length; i++) {
            String indent = i == 0 ? " {4}" : " {8}";
            String field = "(?m)^" + indent + "(?:private )?(?:final )?[\\w]+(?:\\[\\])? \\w+(?: = [^;(]*(?:\\(\\))?)?;";
            Checks.due("fields of part " + i, all(field, parts[i]).size() <= 20, true);
            if (i > 0) {
                classes.add(parts[i].substring(0, parts[i].indexOf(' ')));
            }
        }
        Checks.due("classes have names of their own", classes.size(), parts.length - 1);
    }
}
