import java.lang.reflect.Constructor;
import java.lang.reflect.Field;
import java.lang.reflect.Method;
import java.lang.reflect.Modifier;
import java.nio.file.Files;
import java.nio.file.Path;
import java.util.ArrayList;
import java.util.Arrays;
import java.util.List;
import java.util.TreeSet;

/** The public face of the document (rule 1 of the language), and rules that a source's text shows. */
public final class FaceTest {
    private static final String[] FACE = {
        "boolean load(int,long)", "int code(int)", "boolean rank(int,int)", "boolean enable(int,boolean)",
        "boolean vector(int,int)", "boolean split(int)", "boolean hold(int,boolean)", "boolean pend(int)",
        "boolean clear(int)", "boolean timer(int)", "boolean arrive(int,int)", "int run(int)", "int till(int)",
        "int reset()", "int reg(int) java.util.NoSuchElementException",
        "int word(int) java.lang.IndexOutOfBoundsException", "int data(int) java.lang.IndexOutOfBoundsException",
        "int out(int) java.util.NoSuchElementException", "int source(int,int)", "int nest(int)", "int state(int)",
        "int count(int)", "int event(int,int) java.util.NoSuchElementException", "int waited(int)",
        "boolean ahead(int,int)", "int splits(int)", "int escalates(int)", "int soon(int)", "int order(int,boolean)",
        "int quiet(boolean)", "int window(int)", "int keeps()", "int cost(int)", "int pushes(int)",
        "int room(boolean)"};

    public static void main(String[] args) throws Exception {
        members();
        classes();
        text();
        Kit.end("FaceTest");
    }

    private static void is(String what, Object got, Object want) {
        if (!got.equals(want)) {
            System.out.println(what + ": " + got + ", due is " + want);
        }
        Kit.due(1, what, got.equals(want), true);
    }

    private static void members() {
        Class<?> face = RankEntry.class;
        is("the class", Modifier.toString(face.getModifiers()), "public final");
        TreeSet<String> found = new TreeSet<>();
        for (Method m : face.getDeclaredMethods()) {
            if (Modifier.isPrivate(m.getModifiers()) || m.isSynthetic()) {
                continue;
            }
            is("modifiers of " + m.getName(), Modifier.toString(m.getModifiers()), "public");
            List<String> types = new ArrayList<>();
            Arrays.stream(m.getParameterTypes()).forEach(t -> types.add(t.getSimpleName()));
            StringBuilder all = new StringBuilder();
            all.append(m.getReturnType()).append(' ').append(m.getName());
            all.append('(').append(String.join(",", types)).append(')');
            Arrays.stream(m.getExceptionTypes()).forEach(e -> all.append(' ').append(e.getName()));
            found.add(all.toString());
        }
        is("the methods", found, new TreeSet<>(Arrays.asList(FACE)));
        for (Constructor<?> c : face.getDeclaredConstructors()) {
            is("the constructor", c.toString(), "public RankEntry()");
        }
        List<String> open = new ArrayList<>();
        for (Field f : face.getDeclaredFields()) {
            if (!Modifier.isPrivate(f.getModifiers())) {
                open.add(f.toString());
            }
            if (Modifier.isStatic(f.getModifiers())) {
                is("static " + f.getName() + " is final", Modifier.isFinal(f.getModifiers()), true);
            }
        }
        is("the constants", open, List.of("public static final int RankEntry.NONE"));
        is("NONE", RankEntry.NONE, -1);
    }

    private static void classes() {
        Class<?>[] inside = RankEntry.class.getDeclaredClasses();
        is("twelve classes at most", inside.length < 12, true);
        TreeSet<String> names = new TreeSet<>();
        for (Method m : RankEntry.class.getMethods()) {
            names.add(m.getName());
        }
        for (Class<?> c : inside) {
            is(c.getName() + " is static", Modifier.isStatic(c.getModifiers()), true);
            long fields = Arrays.stream(c.getDeclaredFields()).filter(f -> !Modifier.isStatic(f.getModifiers())).count();
            is(c.getName() + " has twenty fields at most", fields <= 20, true);
            for (Method m : c.getDeclaredMethods()) {
                is("seven parameters at most: " + m.getName(), m.getParameterCount() <= 7, true);
                is("no name of the face: " + m.getName(), names.contains(m.getName()), false);
            }
        }
    }

    private static void text() throws Exception {
        String source = Files.readString(Path.of("src/main/java/RankEntry.java"));
        String[] never = {"package ", "catch", "finally", "->", "::", "synchronized", "assert", "Float.", "Double.",
            "String.format", "hashCode", "System.nanoTime", "System.currentTimeMillis", "Exact(", "static {", "import static",
            "Object", "var "};
        for (String s : never) {
            is("the source has no " + s, source.contains(s), false);
        }
        is("it is of plain signs", source.chars().allMatch(c -> c == 10 || c >= 32 && c < 127), true);
        for (String line : source.split("\n")) {
            if (line.startsWith("import ")) {
                is(line, List.of("import java.util.Arrays;", "import java.util.NoSuchElementException;").contains(line), true);
            }
        }
    }
}
