import java.io.IOException;
import java.nio.file.Files;
import java.nio.file.Path;
import java.util.List;
import java.util.Set;
import java.util.TreeSet;
import java.util.regex.Matcher;
import java.util.regex.Pattern;
import java.util.stream.Stream;

/** Holds README.md against the class and the tests: its example is compiled and run as it stands there. */
public final class ReadmeTest {
    private static final Checks C = new Checks();
    private static final Path OWN_TESTS = Path.of("src/test/java");
    private static final Pattern NAMED = Pattern.compile("`(\\w+Test)`");

    public static void main(String[] args) throws IOException, InterruptedException {
        String readme = Files.readString(Path.of("README.md"));
        example(readme);
        testsNamed(readme);
        filesNamed(readme);
        C.finish();
    }

    private static void example(String readme) throws IOException, InterruptedException {
        C.part("the example");
        String due = block(readme, "text");
        C.due("what it prints is told", due.isBlank() ? 0 : 1, 1);
        Path directory = Files.createTempDirectory("readme");
        try {
            Path program = directory.resolve("Example.java");
            Files.writeString(program, block(readme, "java"));
            String out = directory.resolve("out").toString();
            printedBy("javac", "-d", out, "src/main/java/PacketTrail.java", program.toString());
            String printed = printedBy("java", "-cp", out, "Example");
            if (!printed.equals(due)) {
                C.complain("it printed\n" + printed + "and due is\n" + due);
            }
        } finally {
            delete(directory);
        }
    }

    /** What a command prints; its errors stay apart, as a machine may tell of its settings there. */
    private static String printedBy(String... command) throws IOException, InterruptedException {
        Process process = new ProcessBuilder(command).redirectError(ProcessBuilder.Redirect.INHERIT).start();
        String printed = new String(process.getInputStream().readAllBytes()).replace(System.lineSeparator(), "\n");
        C.due(command[0] + " ends with", process.waitFor(), 0);
        return printed;
    }

    private static void delete(Path path) throws IOException {
        if (Files.isDirectory(path)) {
            List<Path> inside;
            try (Stream<Path> files = Files.list(path)) {
                inside = files.toList();
            }
            for (Path file : inside) {
                delete(file);
            }
        }
        Files.delete(path);
    }

    /** The first block of this language. */
    private static String block(String readme, String language) {
        String start = "```" + language + "\n";
        int from = readme.indexOf(start);
        int to = from < 0 ? -1 : readme.indexOf("```\n", from + start.length());
        if (to < 0) {
            C.complain("there is no block of " + language);
            return "";
        }
        return readme.substring(from + start.length(), to);
    }

    private static void testsNamed(String readme) throws IOException {
        C.part("the tests");
        Set<String> named = new TreeSet<>();
        Matcher m = NAMED.matcher(readme);
        while (m.find()) {
            named.add(m.group(1));
        }
        Set<String> stand = new TreeSet<>();
        try (Stream<Path> files = Files.list(OWN_TESTS)) {
            files.map(f -> f.getFileName().toString()).filter(f -> f.endsWith("Test.java"))
                .forEach(f -> stand.add(f.substring(0, f.length() - ".java".length())));
        }
        if (!named.equals(stand)) {
            C.complain("named are " + named + ", there are " + stand);
        }
    }

    private static void filesNamed(String readme) {
        C.part("the files");
        for (String file : new String[] {"src/main/java/PacketTrail.java", "../shared/DOC.md", "../shared/LANGUAGE.md",
                ".ci/run"}) {
            C.due(file + " is named", readme.contains(file) ? 1 : 0, 1);
            C.due(file + " is there", Files.exists(Path.of(file)) ? 1 : 0, 1);
        }
        C.due(".ci/run can be run", Files.isExecutable(Path.of(".ci/run")) ? 1 : 0, 1);
    }
}
