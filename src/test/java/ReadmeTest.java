import java.io.IOException;
import java.net.URL;
import java.net.URLClassLoader;
import java.nio.file.Files;
import java.nio.file.Path;
import java.util.ArrayList;
import java.util.List;
import java.util.regex.Matcher;
import java.util.regex.Pattern;
import javax.tools.ToolProvider;

/** Makes one class of the README's examples and runs it: each answer told there is the one that comes. */
public final class ReadmeTest {
    private static final Pattern TOLD = Pattern.compile("(?:int (\\w+) = )?(.*); +// (=|throws) (\\S+)");

    public static void main(String[] args) throws IOException, ReflectiveOperationException {
        StringBuilder members = new StringBuilder();
        StringBuilder steps = new StringBuilder();
        boolean java = false;
        boolean member = false;
        for (String line : Files.readAllLines(Path.of("README.md"))) {
            if (line.startsWith("```")) {
                java = line.equals("```java");
                member = false;
            } else if (java) {
                member = member || line.startsWith("static ");
                (member ? members : steps).append(member ? line : step(line)).append('\n');
            }
        }
        List<String[]> rows = new ArrayList<>();
        runAsClass("public final class Examples {\n" + members
            + "public static void steps(java.util.List<String[]> rows) {\n" + steps + "}\n}\n", rows);
        Check.yes("there are examples", rows.size() > 20);
        for (String[] row : rows) {
            Check.text(row[0], row[1], row[2]);
        }
        Check.close("ReadmeTest");
    }

    /** A line as it is; where it tells an answer, a row more: the call, what came, what is told. */
    private static String step(String line) {
        Matcher told = TOLD.matcher(line);
        if (!told.matches()) {
            return line;
        }
        String name = told.group(1);
        String call = told.group(2);
        String want = told.group(4);
        if (told.group(3).equals("throws")) {
            return "try { " + row(call, call, want) + " } catch (RuntimeException e) { "
                + row(call, "e.getClass().getSimpleName()", want) + " }";
        }
        return name == null ? row(call, call, want) : "int " + name + " = " + call + "; " + row(call, name, want);
    }

    private static String row(String call, String got, String want) {
        return "rows.add(new String[] {\"" + call + "\", String.valueOf(" + got + "), \"" + want + "\"});";
    }

    private static void runAsClass(String source, List<String[]> rows)
        throws IOException, ReflectiveOperationException {
        Path folder = Files.createTempDirectory("readme");
        Path file = folder.resolve("Examples.java");
        Path made = folder.resolve("Examples.class");
        try {
            Files.writeString(file, source);
            int failed = ToolProvider.getSystemJavaCompiler().run(null, null, null,
                "-cp", System.getProperty("java.class.path"), "-d", folder.toString(), file.toString());
            Check.same("the examples compile", failed, 0);
            try (URLClassLoader loader = new URLClassLoader(new URL[] {folder.toUri().toURL()})) {
                loader.loadClass("Examples").getMethod("steps", List.class).invoke(null, rows);
            }
        } finally {
            for (Path path : List.of(file, made, folder)) {
                Files.deleteIfExists(path);
            }
        }
    }
}
