import java.io.IOException;
import java.lang.reflect.InvocationTargetException;
import java.lang.reflect.Method;
import java.lang.reflect.Modifier;
import java.net.URL;
import java.net.URLClassLoader;
import java.nio.file.Files;
import java.nio.file.Path;
import java.util.Set;
import java.util.TreeSet;
import java.util.regex.Matcher;
import java.util.regex.Pattern;

/** The calls that README.md shows compile, and answer what it says behind each. */
public final class ReadmeTest {
    private static final Pattern BLOCK = Pattern.compile("(?s)```java\n(.*?)```");
    private static final Pattern ANSWERED = Pattern.compile("x\\.(\\w+)\\(([^;]*)\\);\\s*// (-?\\d+)\\b.*");
    private static final Due due = new Due("ReadmeTest");

    public static void main(String[] args) throws IOException, InterruptedException, ReflectiveOperationException {
        String page = Files.readString(Path.of("README.md"));
        Path made = Files.createTempDirectory("readme");
        Path source = made.resolve("Shown.java");
        Files.writeString(source, "public final class Shown {\n  public static void run() {\n" + program(page) + "  }\n}\n");
        String classes = System.getProperty("java.class.path");
        int ended = new ProcessBuilder("javac", "-cp", classes, "-d", made.toString(), source.toString()).inheritIO().start().waitFor();
        due.is("what README.md shows compiles", ended, 0);
        if (ended == 0) run(made);
        for (String name : new String[] {"Shown.class", "Shown.java", ""}) Files.deleteIfExists(made.resolve(name));
        due.end();
    }

    /** All blocks, one behind another; a call whose answer is told is held against it. */
    private static String program(String page) {
        StringBuilder program = new StringBuilder();
        Set<String> asked = new TreeSet<>();
        for (Matcher block = BLOCK.matcher(page); block.find();) {
            for (String line : block.group(1).split("\n")) {
                Matcher call = ANSWERED.matcher(line);
                boolean told = call.matches();
                due.holds("an answer is told: " + line, told || !line.startsWith("x."));
                if (told) {
                    asked.add(call.group(1));
                    String text = "x." + call.group(1) + "(" + call.group(2) + ")";
                    program.append("    ReadmeTest.is(\"" + text + "\", " + text + ", " + call.group(3) + ");\n");
                } else {
                    program.append("    " + line + "\n");
                }
            }
        }
        for (Method method : RecordNiches.class.getDeclaredMethods()) {
            if (!Modifier.isPrivate(method.getModifiers())) due.holds(method + " is shown", asked.contains(method.getName()));
        }
        return program.toString();
    }

    private static void run(Path made) throws IOException, ReflectiveOperationException {
        try (URLClassLoader loader = new URLClassLoader(new URL[] {made.toUri().toURL()})) {
            loader.loadClass("Shown").getMethod("run").invoke(null);
        } catch (InvocationTargetException e) {
            due.holds("no call throws: " + e.getCause(), false);
        }
    }

    /** What the program that is made of README.md tells of a call. */
    public static void is(String call, long got, long want) {
        due.is(call, got, want);
    }
}
