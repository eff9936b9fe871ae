import java.lang.reflect.Field;
import java.lang.reflect.Method;
import java.lang.reflect.Modifier;
import java.nio.file.Files;
import java.nio.file.Path;
import java.util.Set;
import java.util.TreeSet;
import java.util.regex.Matcher;
import java.util.regex.Pattern;

/** The class has the document's face and nothing else that can be seen. */
public final class FaceTest {
    private static final String[] FACE = {
        "balk(int,int):int", "carried(int):int", "count(int):int", "cut(int,int):boolean",
        "doors():int", "fair(int):int", "fairest(int,int):int", "familiar():int", "fault():int",
        "feed(int,int,int,int,int):int", "forget():void", "game(int,int,int):int", "help():int",
        "hours(int):int", "image():void", "knows(int,int):boolean", "loaf(int,int):int",
        "may(int,int):int", "met(int,int):int", "noon():int", "person(int,int):int",
        "restore():boolean", "ring():int", "safe():int", "season(int,int,int):int",
        "see(int,int,int):int", "slice(int,int,int):int", "thank(int,int):int", "town(int):int",
        "undo():int", "who(int):int", "whom(int):int", "why(int,int):int"
    };

    public static void main(String[] args) throws Exception {
        Class<?> type = StrangeKnives.class;
        Checks.due("public final", type.getModifiers() & (Modifier.PUBLIC | Modifier.FINAL),
                Modifier.PUBLIC | Modifier.FINAL);
        methods(type);
        fields(type);
        Checks.due("constructors", type.getDeclaredConstructors().length, 1);
        Checks.due("classes", type.getDeclaredClasses().length <= 12, true);
        source();
        Checks.finish();
    }

    private static void methods(Class<?> type) {
        Set<String> face = new TreeSet<>(Set.of(FACE));
        Set<String> names = new TreeSet<>();
        for (String method : FACE) {
            names.add(method.substring(0, method.indexOf('(')));
        }
        for (Method method : type.getDeclaredMethods()) {
            if (Modifier.isPublic(method.getModifiers())) {
                Checks.due("face has " + signature(method), face.remove(signature(method)), true);
            } else {
                Checks.due(method + " is private", Modifier.isPrivate(method.getModifiers()), true);
                Checks.due(method + " bears a public name", names.contains(method.getName()), false);
            }
        }
        Checks.due("missing of the face " + face, face.size(), 0);
        for (Class<?> inner : type.getDeclaredClasses()) {
            Checks.due(inner + " is static", Modifier.isStatic(inner.getModifiers()), true);
            for (Method method : inner.getDeclaredMethods()) {
                Checks.due(method + " bears a public name", names.contains(method.getName()), false);
                Checks.due(method + " has 7 parameters", method.getParameterCount() <= 7, true);
            }
        }
    }

    private static void fields(Class<?> type) throws Exception {
        for (Field field : type.getDeclaredFields()) {
            boolean hidden = Modifier.isPrivate(field.getModifiers());
            Checks.due(field + " is private", hidden || field.getName().equals("NONE"), true);
            boolean fixed = Modifier.isFinal(field.getModifiers());
            Checks.due(field + " is no changing static",
                    fixed || !Modifier.isStatic(field.getModifiers()), true);
        }
        Checks.due("NONE", StrangeKnives.NONE, -1);
    }

    private static String signature(Method method) {
        StringBuilder text = new StringBuilder(method.getName()).append('(');
        for (Class<?> parameter : method.getParameterTypes()) {
            text.append(text.charAt(text.length() - 1) == '(' ? "" : ",").append(parameter);
        }
        return text.append("):").append(method.getReturnType()).toString();
    }

    /** Words that LANGUAGE.md leaves out. */
    private static void source() throws Exception {
        String text = Files.readString(Path.of("src/main/java/StrangeKnives.java"));
        String words = "try|catch|finally|synchronized|assert|instanceof|hashCode|toString|package"
                + "|double|float|[a-z]+Exact";
        Matcher found = Pattern.compile("\\b(" + words + ")\\b|->|::|System\\.out").matcher(text);
        while (found.find()) {
            Checks.due("source holds " + found.group(), 1, 0);
        }
        for (int i = 0; i < text.length(); i++) {
            if (text.charAt(i) > 127) {
                Checks.due("sign " + i + " of the source", text.charAt(i), 0);
            }
        }
    }
}
