import java.lang.reflect.InvocationTargetException;
import java.lang.reflect.Method;
import java.lang.reflect.Modifier;
import java.net.URL;
import java.net.URLClassLoader;
import java.nio.file.Files;
import java.nio.file.Path;
import java.util.ArrayList;
import java.util.Comparator;
import java.util.List;
import java.util.regex.Matcher;
import java.util.regex.Pattern;
import java.util.stream.Stream;
import javax.tools.JavaCompiler;
import javax.tools.ToolProvider;

/** README.md keeps its word: its example of use compiles and answers as it says, and it names every call. */
public final class ReadmeTest {
    private static final String MAKES = "RankEntry x = new RankEntry();";
    /** A call, and the answer that its comment begins with (words may follow behind a colon). */
    private static final Pattern CALL =
        Pattern.compile("(x\\.\\w+\\(.*\\));\\s*// (true|false|-?\\d+|throws [A-Z]\\w+)(: .+)?");

    public static void main(String[] args) throws Exception {
        List<String> readme = Files.readAllLines(Path.of("README.md"));
        List<String> example = blockOf(readme);
        Path work = Files.createTempDirectory("readme");
        try {
            example(work, example);
        } finally {
            remove(work);
        }
        names(String.join("\n", readme));
        Kit.end("ReadmeTest");
    }

    /** The lines of the one block of Java. */
    private static List<String> blockOf(List<String> readme) {
        int from = readme.indexOf("```java");
        Kit.due(1, "README.md has one block of Java", from >= 0 && from == readme.lastIndexOf("```java"), true);
        List<String> behind = readme.subList(from + 1, readme.size());
        return behind.subList(0, behind.indexOf("```"));
    }

    private static void example(Path work, List<String> lines) throws Exception {
        Kit.due(1, "the example makes an object first", lines.get(0).equals(MAKES), true);
        List<String> calls = new ArrayList<>();
        List<String> said = new ArrayList<>();
        for (String line : lines.subList(1, lines.size())) {
            Matcher call = CALL.matcher(line);
            boolean fits = call.matches();
            Kit.due(1, "a call with its answer: " + line, fits || line.isBlank(), true);
            if (fits) {
                calls.add(call.group(1));
                said.add(call.group(2));
            }
        }
        Kit.due(1, "the example has calls", calls.size() > 0, true);
        compile(work, "AsItStands", "static void use() {\n" + String.join("\n", lines) + "\n}");
        compile(work, "Answers", asking(calls));
        compare(work, calls, said);
    }

    /** Code that makes the same calls one by one and hands out what they answer. */
    private static String asking(List<String> calls) {
        StringBuilder code = new StringBuilder("static final " + MAKES + "\nstatic Object call(int i) {\nswitch (i) {\n");
        for (int i = 0; i < calls.size(); i++) {
            code.append("case ").append(i).append(": return ").append(calls.get(i)).append(";\n");
        }
        return code.append("default: return null;\n}\n}").toString();
    }

    private static void compile(Path work, String name, String members) throws Exception {
        Path file = work.resolve(name + ".java");
        Files.writeString(file, "class " + name + " {\n" + members + "\n}\n");
        JavaCompiler javac = ToolProvider.getSystemJavaCompiler();
        int code = javac.run(null, null, null, "-cp", System.getProperty("java.class.path"), "-d", work.toString(),
            file.toString());
        Kit.due(1, "the example compiles (" + name + ")", code, 0);
    }

    private static void compare(Path work, List<String> calls, List<String> said) throws Exception {
        try (URLClassLoader loader = new URLClassLoader(new URL[] {work.toUri().toURL()})) {
            Method call = loader.loadClass("Answers").getDeclaredMethod("call", int.class);
            call.setAccessible(true);
            for (int i = 0; i < calls.size(); i++) {
                String got;
                try {
                    got = String.valueOf(call.invoke(null, i));
                } catch (InvocationTargetException e) {
                    got = "throws " + e.getCause().getClass().getSimpleName();
                }
                String what = calls.get(i) + " is " + said.get(i) + " in README.md, and answered " + got;
                Kit.due(1, what, got.equals(said.get(i)), true);
            }
        }
    }

    private static void names(String readme) {
        for (Method m : RankEntry.class.getDeclaredMethods()) {
            if (Modifier.isPublic(m.getModifiers())) {
                Kit.due(1, "README.md names " + m.getName(), readme.contains("`" + m.getName() + "`"), true);
            }
        }
    }

    private static void remove(Path work) throws Exception {
        try (Stream<Path> all = Files.walk(work)) {
            for (Path path : all.sorted(Comparator.reverseOrder()).toList()) {
                Files.delete(path);
            }
        }
    }
}
