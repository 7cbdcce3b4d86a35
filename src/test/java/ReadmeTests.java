import java.io.IOException;
import java.lang.reflect.Method;
import java.lang.reflect.Modifier;
import java.nio.file.Files;
import java.nio.file.Path;

/** What README.md shows is so: its example prints what stands below it, and its table has every call. */
public final class ReadmeTests {
    private static final Path README = Path.of("README.md");

    private final Check check = new Check();
    private final String readme;

    private ReadmeTests(String readme) {
        this.readme = readme;
    }

    public static void main(String[] args) throws IOException, InterruptedException {
        ReadmeTests tests = new ReadmeTests(Files.readString(README));
        tests.example();
        tests.calls();
        tests.check.end("ReadmeTests");
    }

    private void example() throws IOException, InterruptedException {
        Path folder = Files.createTempDirectory("readme");
        Path program = folder.resolve("Example.java");
        Path printed = folder.resolve("printed");
        try {
            Files.writeString(program, block("java"));
            check.equal("the example's exit code", run(program, printed), 0);
            check.equal("the example's print", Files.readString(printed), block("text"));
        } finally {
            Files.deleteIfExists(printed);
            Files.deleteIfExists(program);
            Files.deleteIfExists(folder);
        }
    }

    private static int run(Path program, Path printed) throws IOException, InterruptedException {
        String java = Path.of(System.getProperty("java.home"), "bin", "java").toString();
        String classes = System.getProperty("java.class.path");
        ProcessBuilder builder = new ProcessBuilder(java, "-cp", classes, program.toString());
        builder.redirectErrorStream(true);
        builder.redirectOutput(printed.toFile());
        return builder.start().waitFor();
    }

    private String block(String kind) {
        String opening = "\n```" + kind + "\n";
        int start = readme.indexOf(opening);
        int end = start < 0 ? -1 : readme.indexOf("\n```\n", start + opening.length());
        check.equal("README.md has a block of " + kind, end >= 0, true);
        return end < 0 ? "" : readme.substring(start + opening.length(), end + 1);
    }

    private void calls() {
        for (Method method : LicenceKeeper.class.getDeclaredMethods()) {
            if (Modifier.isPublic(method.getModifiers())) {
                check.equal("README.md tells of " + method.getName(), tellsOf(method), true);
            }
        }
    }

    /** Whether a row of the table has the call with as many arguments. */
    private boolean tellsOf(Method method) {
        String start = "`" + method.getName() + "(";
        for (String line : readme.split("\n")) {
            int at = line.startsWith("|") ? line.indexOf(start) : -1;
            if (at >= 0) {
                String arguments = line.substring(at + start.length(), line.indexOf(")`", at));
                int count = arguments.isEmpty() ? 0 : arguments.split(",").length;
                return count == method.getParameterCount();
            }
        }
        return false;
    }
}
