import java.io.IOException;
import java.lang.reflect.Method;
import java.lang.reflect.Modifier;
import java.nio.file.Files;
import java.nio.file.Path;
import java.util.Arrays;
import java.util.Set;
import java.util.TreeSet;
import java.util.regex.Matcher;
import java.util.regex.Pattern;

/** Rules of LANGUAGE.md that can be seen from the text or the class itself. */
public final class LanguageTest {
    private static final String[] FORBIDDEN = {"->", "::", "Exact\\(", "static\\s*\\{", "\\bfinally\\b", "\\bcatch\\b",
        "\\bsynchronized\\b", "\\bassert\\b", "\\bvar\\b", "\\bpackage\\b", "hashCode", "\\.ordinal\\(",
        "\\.getMessage", "System\\.(?!arraycopy)", "Math\\.(?!min\\(|max\\(|abs\\()", "(==|!=)\\s*\"", "\"\\s*\\+",
        "\\b(Long|Integer)\\.[A-Z]", "\\bnew Object\\b"};

    public static void main(String[] args) throws IOException {
        String source = Files.readString(Path.of("src/main/java/ButterLeaves.java"));
        words(source);
        face();
        methods(source);
        Check.end();
    }

    private static void words(String source) {
        String code = source.replaceAll("(?s)/\\*.*?\\*/", "").replaceAll("//[^\n]*", "");
        for (String word : FORBIDDEN) {
            if (Pattern.compile(word).matcher(code).find()) {
                Check.say("the class uses " + word);
            }
        }
        Matcher imports = Pattern.compile("import ([^;]*);").matcher(code);
        while (imports.find()) {
            if (!imports.group(1).equals("java.util.NoSuchElementException")) {
                Check.say("the class imports " + imports.group(1));
            }
        }
        if (!source.chars().allMatch(c -> c < 128)) {
            Check.say("the class has signs above 127");
        }
    }

    private static void face() {
        Set<String> face = new TreeSet<>(Arrays.asList("feed", "kitchen", "recipe", "fault", "told", "room", "step",
                "steps", "behind", "thin", "leaf", "most", "least", "having", "kinds", "block", "joins", "weight",
                "trimmed", "wrong", "begin", "latest", "soonest", "pass", "fewest", "bench", "turnOf", "image",
                "restore", "count"));
        Set<String> found = new TreeSet<>();
        for (Method method : ButterLeaves.class.getDeclaredMethods()) {
            boolean open = Modifier.isPublic(method.getModifiers());
            if (open) {
                found.add(method.getName());
            } else if (!Modifier.isPrivate(method.getModifiers()) || face.contains(method.getName())) {
                Check.say("a method beside the face: " + method);
            }
        }
        if (!found.equals(face)) {
            Check.say("the face is " + found);
        }
        Class<?>[] inside = ButterLeaves.class.getDeclaredClasses();
        staticFields(ButterLeaves.class);
        Check.due("classes within twelve", inside.length < 12 ? 1 : 0, 1);
        for (Class<?> nested : inside) {
            staticFields(nested);
            Check.due(nested + " is static", nested.getModifiers() & Modifier.STATIC, Modifier.STATIC);
            int fields = 0;
            for (java.lang.reflect.Field field : nested.getDeclaredFields()) {
                fields += Modifier.isStatic(field.getModifiers()) ? 0 : 1;
            }
            Check.due(nested + " has at most 20 fields", fields <= 20 ? 1 : 0, 1);
            for (Method method : nested.getDeclaredMethods()) {
                if (face.contains(method.getName()) || method.getParameterCount() > 7) {
                    Check.say("a name of the face, or too many parameters: " + method);
                }
            }
        }
    }

    /** Rule 5: constants alone, and rows of numbers written out. */
    private static void staticFields(Class<?> type) {
        for (java.lang.reflect.Field field : type.getDeclaredFields()) {
            if (Modifier.isStatic(field.getModifiers())) {
                String kind = field.getType().getSimpleName().replace("[]", "");
                Check.due(field + " is final", field.getModifiers() & Modifier.FINAL, Modifier.FINAL);
                Check.due(field + " is a constant", "int long boolean char byte String".contains(kind) ? 1 : 0, 1);
            }
        }
    }

    private static void methods(String source) {
        int length = 0;
        for (String line : source.split("\n")) {
            boolean begins = line.matches(" {4,8}\\S.*\\)( throws .*)? \\{") || line.matches(" {12}throws .*\\{");
            length = begins ? 1 : length + 1;
            boolean ends = line.equals("    }") || line.equals("        }");
            if (ends && length > 60) {
                Check.say("a long method ends so: " + length + " lines");
            }
            length = ends ? 0 : length;
            if (line.length() > 120) {
                Check.say("a long line: " + line);
            }
        }
    }
}
