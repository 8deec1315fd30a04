import java.io.IOException;
import java.lang.reflect.Constructor;
import java.lang.reflect.Field;
import java.lang.reflect.Method;
import java.lang.reflect.Modifier;
import java.nio.file.Files;
import java.nio.file.Path;
import java.util.Set;
import java.util.TreeSet;
import java.util.regex.Matcher;
import java.util.regex.Pattern;

/** The face is the document's and no more; those rules of ../shared/LANGUAGE.md that can be seen from outside hold. */
final class FaceTest {
    private static final String SOURCE = "src/main/java/RecordNiches.java";
    private static final Set<String> METHODS = Set.of(
        "int say(int,int)", "int wipe(int)", "int fault(int)", "int way(int)", "int layout(int,int,int)",
        "int term(int,int,int,int)", "int variant(int,int,int)", "int pattern(int,int,int)", "int least(int,int)",
        "int idle(int,int)", "int give(long)", "int drop()", "long given(int)", "int write(int,int,int)",
        "int read(int,int,int)", "int which(int,int,int)", "int poke(int,int)", "int peek(int)", "int image(int)",
        "int restore(int)", "int told(int)");
    private static final Set<String> CONSTANTS = Set.of("UNKNOWN", "OUTSIDE", "STATE", "FULL", "NO", "NONE");
    private static final Set<String> LIBRARY = Set.of("String", "StringBuilder", "Integer", "Long", "Math", "ArrayList",
        "List", "Iterator", "Iterable", "Comparable", "System", "Arrays");
    private static final Due due = new Due("FaceTest");

    public static void main(String[] args) throws IOException {
        face();
        classesInside();
        words(withoutComments(Files.readString(Path.of(SOURCE))));
        due.end();
    }

    private static String signature(Method m) {
        StringBuilder s = new StringBuilder(m.getReturnType() + " " + m.getName() + "(");
        for (Class<?> p : m.getParameterTypes()) s.append(s.charAt(s.length() - 1) == '(' ? "" : ",").append(p);
        return s.append(")").toString();
    }

    private static void face() {
        Class<?> c = RecordNiches.class;
        due.is("the class's modifiers", c.getModifiers(), Modifier.PUBLIC | Modifier.FINAL);
        Set<String> methods = new TreeSet<>();
        for (Method m : c.getDeclaredMethods()) {
            if (Modifier.isPrivate(m.getModifiers())) continue;
            due.is(m + ": modifiers", m.getModifiers(), Modifier.PUBLIC);
            methods.add(signature(m));
        }
        due.holds("the methods " + methods, methods.equals(METHODS));
        Set<String> constants = new TreeSet<>();
        for (Field f : c.getDeclaredFields()) {
            if (Modifier.isStatic(f.getModifiers())) due.holds(f + " is final", Modifier.isFinal(f.getModifiers()));
            if (Modifier.isPrivate(f.getModifiers())) continue;
            due.is(f + ": modifiers", f.getModifiers(), Modifier.PUBLIC | Modifier.STATIC | Modifier.FINAL);
            due.holds(f + " is an int", f.getType() == int.class);
            constants.add(f.getName());
        }
        due.holds("the constants " + constants, constants.equals(CONSTANTS));
        for (Constructor<?> k : c.getDeclaredConstructors()) {
            due.holds(k + " is the document's", k.getParameterCount() == 0 && Modifier.isPublic(k.getModifiers()));
        }
    }

    private static void classesInside() {
        Class<?>[] inside = RecordNiches.class.getDeclaredClasses();
        due.holds("at most twelve classes", inside.length < 12);
        Set<String> names = new TreeSet<>();
        for (String m : METHODS) names.add(m.substring(m.indexOf(' ') + 1, m.indexOf('(')));
        for (Class<?> c : inside) {
            int m = c.getModifiers();
            due.holds(c + " is static", Modifier.isStatic(m));
            due.holds(c + " is not of the face", !Modifier.isPublic(m) && !Modifier.isProtected(m));
            int fields = 0;
            for (Field f : c.getDeclaredFields()) {
                if (Modifier.isStatic(f.getModifiers())) due.holds(f + " is final", Modifier.isFinal(f.getModifiers()));
                else fields++;
            }
            due.holds(c + " has " + fields + " fields", fields <= 20);
            for (Method k : c.getDeclaredMethods()) {
                due.holds(k + " has a name of its own", !names.contains(k.getName()));
                due.holds(k + " takes at most seven", k.getParameterCount() <= 7);
            }
        }
    }

    private static String withoutComments(String source) {
        return source.replaceAll("(?s)/\\*.*?\\*/", " ").replaceAll("//[^\n]*", " ").replaceAll("'(\\\\.|[^'])'", "0")
            .replaceAll("\"(\\\\.|[^\"])*\"", "0");
    }

    private static void words(String code) {
        Matcher refused = Pattern.compile("\\b(throw|throws|try|catch|synchronized|assert|import|package|equals|hashCode"
            + "|toString|volatile|native|new\\s+\\w+\\s*\\([^)]*\\)\\s*\\{|static\\s*\\{|\\w+Exact)|->|::").matcher(code);
        while (refused.find()) due.holds("no '" + refused.group() + "'", false);
        Set<String> own = new TreeSet<>();
        Matcher classes = Pattern.compile("\\b(?:class|interface|enum|record) (\\w+)").matcher(code);
        while (classes.find()) own.add(classes.group(1));
        Matcher names = Pattern.compile("\\b[A-Z]\\w*[a-z]\\w*\\b").matcher(code);
        while (names.find()) {
            due.holds(names.group() + " is of the library that may be used", own.contains(names.group()) || LIBRARY.contains(names.group()));
        }
        due.holds("signs are plain", code.chars().allMatch(c -> c < 128));
    }
}
