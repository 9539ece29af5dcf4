import java.lang.reflect.Constructor;
import java.lang.reflect.Field;
import java.lang.reflect.Method;
import java.lang.reflect.Modifier;
import java.util.Set;
import java.util.TreeSet;

/** 'The public face' of the document against the class itself: each constant, constructor and method, and no other. */
public final class FaceTest {
    public static void main(String[] args) throws IllegalAccessException {
        Set<String> due = new TreeSet<>();
        for (String line : Doc.face()) {
            due.add(bare(line));
        }
        Set<String> found = found();
        for (String line : due) {
            if (!found.contains(line)) {
                Check.say("the face misses " + line);
            }
        }
        for (String line : found) {
            if (!due.contains(line)) {
                Check.say("the face has " + line + " too");
            }
        }
        Check.due("lines of the face", due.size(), 32);
        Check.due("the class is public and final", ButterLeaves.class.getModifiers(), Modifier.PUBLIC | Modifier.FINAL);
        Check.end();
    }

    /** A line of the document without the names of its parameters. */
    private static String bare(String line) {
        int open = line.indexOf('(');
        int close = line.indexOf(')');
        if (open < 0) {
            return line;
        }
        return line.substring(0, open) + "(" + line.substring(open + 1, close).replaceAll(" \\w+(?=,|$)", "")
                + line.substring(close);
    }

    private static Set<String> found() throws IllegalAccessException {
        Set<String> found = new TreeSet<>();
        for (Field field : ButterLeaves.class.getDeclaredFields()) {
            if (!Modifier.isPrivate(field.getModifiers())) {
                found.add(Modifier.toString(field.getModifiers()) + " " + field.getType().getSimpleName() + " "
                        + field.getName() + " = " + field.get(null));
            }
        }
        for (Constructor<?> made : ButterLeaves.class.getDeclaredConstructors()) {
            found.add(Modifier.toString(made.getModifiers()) + " " + made.getDeclaringClass().getSimpleName()
                    + names(made.getParameterTypes(), made.getExceptionTypes()));
        }
        for (Method method : ButterLeaves.class.getDeclaredMethods()) {
            if (!Modifier.isPrivate(method.getModifiers()) && !method.isSynthetic()) {
                found.add(Modifier.toString(method.getModifiers()) + " " + method.getReturnType().getSimpleName() + " "
                        + method.getName() + names(method.getParameterTypes(), method.getExceptionTypes()));
            }
        }
        return found;
    }

    private static String names(Class<?>[] parameters, Class<?>[] exceptions) {
        return "(" + joined(parameters) + ")" + (exceptions.length > 0 ? " throws " + joined(exceptions) : "");
    }

    private static String joined(Class<?>[] types) {
        StringBuilder names = new StringBuilder();
        for (Class<?> type : types) {
            names.append(names.length() > 0 ? ", " : "").append(type.getSimpleName());
        }
        return names.toString();
    }
}
