import java.io.IOException;
import java.net.URL;
import java.net.URLClassLoader;
import java.nio.file.Files;
import java.nio.file.Path;
import java.util.ArrayList;
import java.util.List;
import javax.tools.ToolProvider;

/**
 * README.md: its Java blocks are made one program, in which each call is asked and compared with the remark
 * behind it. What the program is made of is only what README.md says, so that the two can't differ.
 */
public final class ReadmeTest extends Bench {
    private static final String PROGRAM = "ReadmeProgram";

    public static void main(String[] args) throws Exception {
        List<String> lines = Files.readAllLines(Path.of("README.md"));
        String program = programOf(lines);
        for (String[] row : answersOf(program)) {
            due(row[0] + ": " + row[1] + " is what README.md tells, " + row[2], row[1].equals(row[2]), true);
        }
        for (String method : Counted.METHODS) due("README.md shows " + method, program.contains("k." + method + "("), true);
        tellsOfTests(String.join("\n", lines));
        finish();
    }

    /** README.md says how the tests are run, and names each of them. */
    private static void tellsOfTests(String readme) throws IOException {
        due("README.md tells of .ci/run", readme.contains("\n.ci/run\n"), true);
        try (var files = Files.list(Path.of("src/test/java"))) {
            for (Path file : files.sorted().toList()) {
                String name = file.getFileName().toString().replace(".java", "");
                due("README.md tells of " + name, readme.contains("`" + name + "`"), true);
            }
        }
    }

    private static String programOf(List<String> lines) {
        StringBuilder body = new StringBuilder();
        boolean inside = false;
        for (String line : lines) {
            if (line.startsWith("```")) {
                inside = line.equals("```java");
            } else if (inside && !line.isBlank()) {
                body.append(statementOf(line));
            }
        }
        return "public final class " + PROGRAM + " {\n"
            + "    public static void run(java.util.List<String[]> rows) {\n" + body + "    }\n}\n";
    }

    /** A line of README.md as it is run: a call, perhaps with a name for its answer, and its remark. */
    private static String statementOf(String line) {
        int remark = line.indexOf("//");
        String call = (remark < 0 ? line : line.substring(0, remark)).strip();
        if (remark < 0) {
            due("the answer of " + call + " is told", call.equals("k.clear();") || call.endsWith("new TypeKernel();"), true);
            return call + "\n";
        }
        String told = line.substring(remark + 2).split(":")[0].strip();
        String asked = call.substring(0, call.length() - 1);
        if (told.startsWith("throws ")) {
            return "try { " + call + row(asked, "\"nothing\"", text(told)) + " } catch (RuntimeException e) { "
                + row(asked, "\"throws \" + e.getClass().getSimpleName()", text(told)) + " }\n";
        }
        if (asked.startsWith("int ")) {
            String name = asked.substring(4, asked.indexOf(" ="));
            return call + row(asked, name, told) + "\n";
        }
        return row(asked, asked, told) + "\n";
    }

    private static String text(String s) {
        return "\"" + s.replace("\\", "\\\\").replace("\"", "\\\"") + "\"";
    }

    private static String row(String asked, String got, String told) {
        return " rows.add(new String[] {" + text(asked) + ", String.valueOf(" + got + "), String.valueOf(" + told + ")});";
    }

    /** Compiles and runs the program: each call, what it answered, and what was told. */
    private static List<String[]> answersOf(String program) throws Exception {
        Path directory = Files.createTempDirectory("readme");
        Path source = directory.resolve(PROGRAM + ".java"), compiled = directory.resolve(PROGRAM + ".class");
        List<String[]> rows = new ArrayList<>();
        try {
            Files.writeString(source, program);
            int code = ToolProvider.getSystemJavaCompiler().run(null, null, null,
                "-cp", System.getProperty("java.class.path"), "-d", directory.toString(), source.toString());
            due("the calls of README.md compile", code, 0);
            if (code == 0) run(directory, rows);
        } finally {
            Files.deleteIfExists(source);
            Files.deleteIfExists(compiled);
            Files.deleteIfExists(directory);
        }
        due("README.md tells of answers", !rows.isEmpty(), true);
        return rows;
    }

    private static void run(Path directory, List<String[]> rows) throws Exception {
        try (URLClassLoader loader = new URLClassLoader(new URL[] {directory.toUri().toURL()})) {
            loader.loadClass(PROGRAM).getMethod("run", List.class).invoke(null, rows);
        }
    }
}
