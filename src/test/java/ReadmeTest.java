import java.io.StringWriter;
import java.lang.reflect.Method;
import java.lang.reflect.Modifier;
import java.net.URL;
import java.net.URLClassLoader;
import java.nio.file.Files;
import java.nio.file.Path;
import java.util.ArrayList;
import java.util.Comparator;
import java.util.List;
import java.util.regex.Matcher;
import java.util.regex.Pattern;
import java.util.stream.Stream;
import javax.tools.JavaCompiler;
import javax.tools.StandardJavaFileManager;
import javax.tools.ToolProvider;

/**
 * What README.md shows is run: its Java becomes one file Yours.java, compiled with the class as the page says. A block
 * that begins with a method is a member there, all others are one row of statements, and each line that calls an object
 * must answer what its comment begins with.
 */
public final class ReadmeTest {
    private static final Pattern CALL = Pattern.compile("(\\w+\\.\\w+\\(.*\\));\\s*// (-?\\d+|true|false)(: .*)?");

    private static final StringBuilder MEMBERS = new StringBuilder();
    private static final StringBuilder STATEMENTS = new StringBuilder();
    /** Of each call, in their order: where it stands, and the answer that is told there. */
    private static final List<String> CALLS = new ArrayList<>();
    private static final List<String> TOLD = new ArrayList<>();

    public static void main(String[] args) throws Exception {
        takeBlocks(Files.readAllLines(Path.of("README.md")));
        Check.due("README.md shows calls", CALLS.isEmpty(), false);
        everyCallIsShown();
        compare(answers());
        Check.end();
    }

    private static void takeBlocks(List<String> lines) {
        boolean inside = false;
        boolean ofMember = false;
        for (int i = 0; i < lines.size(); i++) {
            String line = lines.get(i);
            if (line.startsWith("```")) {
                inside = line.equals("```java");
                ofMember = inside && i + 1 < lines.size() && lines.get(i + 1).startsWith("static ");
            } else if (inside && ofMember) {
                MEMBERS.append(line).append('\n');
            } else if (inside) {
                takeStatement("README.md, line " + (i + 1) + ": ", line);
            }
        }
        Check.due("the last block of README.md ends", inside, false);
    }

    private static void takeStatement(String where, String line) {
        Matcher call = CALL.matcher(line);
        if (call.matches()) {
            CALLS.add(where + call.group(1));
            TOLD.add(call.group(2));
            STATEMENTS.append("answers.add(").append(call.group(1)).append(");\n");
        } else {
            Check.due(where + "an answer is told behind: " + line, line.matches("\\w+\\..*"), false);
            STATEMENTS.append(line).append('\n');
        }
    }

    private static void everyCallIsShown() {
        String shown = MEMBERS.toString() + STATEMENTS;
        for (Method m : HandHeirs.class.getDeclaredMethods()) {
            if (Modifier.isPublic(m.getModifiers())) {
                Check.due("README.md shows " + m.getName(), shown.contains("." + m.getName() + "("), true);
            }
        }
    }

    private static List<?> answers() throws Exception {
        Path room = Files.createTempDirectory("readme");
        try {
            Path yours = room.resolve("Yours.java");
            Files.writeString(yours, "public final class Yours {\n" + MEMBERS
                + "public static void run(java.util.List<Object> answers) {\n" + STATEMENTS + "}\n}\n");
            String faults = compile(Path.of("src/main/java/HandHeirs.java"), yours, room.resolve("out"));
            Check.due("compiling what README.md shows", faults, "");
            return faults.isEmpty() ? run(room.resolve("out")) : List.of();
        } finally {
            clear(room);
        }
    }

    private static String compile(Path main, Path yours, Path out) throws Exception {
        JavaCompiler javac = ToolProvider.getSystemJavaCompiler();
        StringWriter faults = new StringWriter();
        try (StandardJavaFileManager files = javac.getStandardFileManager(null, null, null)) {
            boolean sound = javac.getTask(faults, files, null, List.of("-d", out.toString()), null,
                files.getJavaFileObjects(main, yours)).call();
            return sound ? "" : "it is no Java: " + faults;
        }
    }

    /** On the platform's loader alone, so that the classes are those that were compiled for the page. */
    private static List<?> run(Path out) throws Exception {
        List<Object> answers = new ArrayList<>();
        try (URLClassLoader loader = new URLClassLoader(new URL[] {out.toUri().toURL()}, ClassLoader.getPlatformClassLoader())) {
            loader.loadClass("Yours").getMethod("run", List.class).invoke(null, answers);
        }
        return answers;
    }

    private static void compare(List<?> answers) {
        Check.due("answers to what README.md shows", answers.size(), CALLS.size());
        for (int i = 0; i < Math.min(answers.size(), CALLS.size()); i++) {
            Check.due(CALLS.get(i), String.valueOf(answers.get(i)), TOLD.get(i));
        }
    }

    private static void clear(Path room) throws Exception {
        List<Path> all;
        try (Stream<Path> walk = Files.walk(room)) {
            all = walk.sorted(Comparator.reverseOrder()).toList();
        }
        for (Path one : all) {
            Files.delete(one);
        }
    }
}
