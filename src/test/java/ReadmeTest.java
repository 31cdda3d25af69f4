import java.io.IOException;
import java.lang.reflect.Method;
import java.net.URL;
import java.net.URLClassLoader;
import java.nio.file.Files;
import java.nio.file.Path;
import java.util.ArrayList;
import java.util.List;
import java.util.function.ObjLongConsumer;
import java.util.regex.Matcher;
import java.util.regex.Pattern;
import javax.tools.ToolProvider;

/* The Java lines of README.md are run, and each answers the number that stands behind it; all of the face is in it. */
public final class ReadmeTest {
    private static final Path README = Path.of("README.md");
    private static final Pattern BLOCK = Pattern.compile("(?s)```java\n(.*?)```");
    private static final Pattern ASKED = Pattern.compile("(town\\.(\\w+)\\(.*\\)); +// (-?\\d+)(:.*)?");

    private static final Due due = new Due();

    private static final List<Long> wanted = new ArrayList<>();
    private static final List<String> asked = new ArrayList<>();

    /* A program of the blocks, in which each answer is handed out. */
    private static String program(String readme) {
        StringBuilder all = new StringBuilder("public final class Lines {\n");
        StringBuilder calls = new StringBuilder();
        Matcher block = BLOCK.matcher(readme);
        for (int i = 0; block.find(); i++) {
            calls.append("block").append(i).append("(told); ");
            all.append("static void block").append(i).append("(java.util.function.ObjLongConsumer<String> told) {\n");
            for (String line : block.group(1).split("\n")) all.append(lineOfProgram(line)).append('\n');
            all.append("}\n");
        }
        all.append("public static void run(java.util.function.ObjLongConsumer<String> told) { ").append(calls);
        return all.append("}\n}\n").toString();
    }

    private static String lineOfProgram(String line) {
        Matcher call = ASKED.matcher(line);
        if (!call.matches()) return line;
        asked.add(call.group(1));
        wanted.add(Long.parseLong(call.group(3)));
        return "told.accept(\"" + call.group(1) + "\", " + call.group(1) + ");";
    }

    private static void run(String program) throws IOException, ReflectiveOperationException {
        Path directory = Files.createTempDirectory("readme");
        Path source = directory.resolve("Lines.java");
        Files.writeString(source, program);
        int failed = ToolProvider.getSystemJavaCompiler().run(null, null, null, "-cp",
            System.getProperty("java.class.path"), "-d", directory.toString(), source.toString());
        due.is("README.md's lines compile", failed, 0);
        if (failed == 0) {
            try (URLClassLoader loader = new URLClassLoader(new URL[] {directory.toUri().toURL()})) {
                int[] at = new int[1];
                ObjLongConsumer<String> told = (call, answer) -> due.is("README.md: " + call, answer, wanted.get(at[0]++));
                loader.loadClass("Lines").getMethod("run", ObjLongConsumer.class).invoke(null, told);
                due.is("lines that answered", at[0], wanted.size());
            }
        }
        for (String file : new String[] {"Lines.java", "Lines.class"}) Files.deleteIfExists(directory.resolve(file));
        Files.delete(directory);
    }

    public static void main(String[] args) throws IOException, ReflectiveOperationException {
        String readme = Files.readString(README);
        run(program(readme));
        for (Method method : OvenLies.class.getDeclaredMethods()) {
            boolean isPublic = java.lang.reflect.Modifier.isPublic(method.getModifiers());
            if (isPublic && !method.getName().equals("digest")) {
                due.is(method.getName() + " is used in README.md",
                    asked.stream().anyMatch(call -> call.startsWith("town." + method.getName() + "(")) ? 1 : 0, 1);
            }
        }
        due.is("digest is told of in README.md", readme.contains("`digest()`") ? 1 : 0, 1);
        due.end();
    }
}
