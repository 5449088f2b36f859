import java.io.File;
import java.io.IOException;
import java.nio.file.Files;
import java.nio.file.Path;
import java.util.List;
import java.util.regex.Matcher;
import java.util.regex.Pattern;
import javax.tools.ToolProvider;

/** Runs the pieces of Java of README.md as one program, and checks what stands behind each call. */
public final class ReadmeTest {
    private static final Path README = Path.of("README.md");
    private static final String EXAMPLE = "ReadmeExampleTest";

    private static final Pattern DECLARED = Pattern.compile("(?:int|FormRiver) (\\w+) = .*;");
    private static final Pattern ANSWERED = Pattern.compile("(.*);\\s+// -> ('.'|[^,\\s]+).*");
    private static final Pattern THROWN = Pattern.compile("(.*);\\s+// throws (\\w+)");

    public static void main(String[] args) throws Exception {
        Path folder = Files.createTempDirectory("readme");
        Path source = folder.resolve(EXAMPLE + ".java");
        Files.writeString(source, program(Files.readAllLines(README)));
        String classPath = folder + File.pathSeparator + System.getProperty("java.class.path");
        int failed = ToolProvider.getSystemJavaCompiler().run(null, null, null, "-d", folder.toString(),
                "-cp", classPath, source.toString());
        Checks.is(0, failed);
        if (failed == 0) {
            Checks.is(0, run(classPath));
        }
        remove(folder);
        Checks.end();
    }

    /** Each line stands in the program at its own number, so that a check that fails is told by the README's line. */
    private static String program(List<String> lines) {
        StringBuilder program = new StringBuilder("import java.util.NoSuchElementException; ");
        program.append("public final class " + EXAMPLE + " { public static void main(String[] args) {");
        boolean isJava = false;
        int checked = 0;
        for (String line : lines) {
            if (line.startsWith("```")) {
                isJava = line.equals("```java");
            } else if (isJava) {
                String checkedLine = checkedLine(line);
                checked += checkedLine.equals(line) ? 0 : 1;
                program.append(checkedLine);
            }
            program.append('\n');
        }
        Checks.check(checked > 50, "lines with answers", "" + checked);
        return program.append("Checks.end(); }}\n").toString();
    }

    private static String checkedLine(String line) {
        Matcher thrown = THROWN.matcher(line);
        if (thrown.matches()) {
            return "Checks.fails(" + thrown.group(2) + ".class, () -> " + thrown.group(1) + ");";
        }
        Matcher answered = ANSWERED.matcher(line);
        if (!answered.matches()) {
            return line;
        }
        Matcher declared = DECLARED.matcher(answered.group(1) + ";");
        if (declared.matches()) {
            return answered.group(1) + "; Checks.is(" + answered.group(2) + ", " + declared.group(1) + ");";
        }
        return "Checks.is(" + answered.group(2) + ", " + answered.group(1) + ");";
    }

    private static int run(String classPath) throws IOException, InterruptedException {
        String java = Path.of(System.getProperty("java.home"), "bin", "java").toString();
        return new ProcessBuilder(java, "-cp", classPath, EXAMPLE).inheritIO().start().waitFor();
    }

    private static void remove(Path folder) throws IOException {
        for (String name : folder.toFile().list()) {
            Files.delete(folder.resolve(name));
        }
        Files.delete(folder);
    }
}
