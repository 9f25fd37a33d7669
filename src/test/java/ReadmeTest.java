import java.io.IOException;
import java.lang.reflect.Method;
import java.lang.reflect.Modifier;
import java.nio.file.Files;
import java.nio.file.Path;
import java.util.ArrayList;
import java.util.Comparator;
import java.util.List;
import java.util.regex.Matcher;
import java.util.regex.Pattern;
import java.util.stream.Stream;

/** README.md: its example gives the answers that it tells, its commands work, nothing is left out. */
public final class ReadmeTest {
    private static final String OWN_COMMAND = ".ci/run";
    private static final Pattern CALL = Pattern.compile(" *loft\\.(\\w+)\\((.*?)\\); *// (-?[\\w.]+): .*");
    private static final String[] FINDINGS = {"MISSING", "BEYOND", "SIZE", "KIND", "COPY", "SILENT", "NUMBER", "THERE",
        "LOOSE", "HIGH", "MUCH", "TAKEN", "CLASH", "HOT", "HEAVY", "BURDENED", "NOTHING", "RUNNING", "OTHER"};
    private static int wrong = 0;

    public static void main(String[] args) throws Exception {
        String page = Files.readString(Path.of("README.md"));
        List<String> programs = blocks(page, "java");
        List<String> prints = blocks(page, "text");
        if (programs.size() != 1 || prints.size() != 1) {
            fault("one example is due, and what it prints");
        } else {
            answers(programs.get(0));
            commands(programs.get(0), prints.get(0), blocks(page, "sh"));
        }
        calls(page);
        findings(page);
        tests(page);
        System.out.println(wrong == 0 ? "README.md holds" : wrong + " things in README.md do not hold");
        if (wrong != 0) {
            System.exit(1);
        }
    }

    private static void fault(String what) {
        wrong++;
        System.out.println(what);
    }

    /** The blocks of one language, without the indent that they have in a list. */
    private static List<String> blocks(String page, String language) {
        List<String> found = new ArrayList<>();
        Matcher m = Pattern.compile("(?ms)^ *```" + language + "\n(.*?)^ *```$").matcher(page);
        while (m.find()) {
            found.add(m.group(1).stripIndent());
        }
        return found;
    }

    private static void answers(String program) {
        RiggingLoft loft = new RiggingLoft();
        for (String line : program.split("\n")) {
            if (!line.strip().startsWith("loft.")) {
                continue;
            }
            Matcher m = CALL.matcher(line);
            if (!m.matches()) {
                fault("no answer is told: " + line);
                continue;
            }
            double told = m.group(3).equals("NONE") ? RiggingLoft.NONE : Double.parseDouble(m.group(3));
            double got = Callers.onClass(loft, m.group(1), numbers(m.group(2)));
            if (got != told) {
                fault("answered " + Run.told(got) + ": " + line);
            }
        }
    }

    private static int[] numbers(String list) {
        if (list.isEmpty()) {
            return new int[0];
        }
        return Stream.of(list.split(", ")).mapToInt(Integer::parseInt).toArray();
    }

    /** In a directory of its own that looks like the project's, so that nothing is left behind in that one. */
    private static void commands(String program, String prints, List<String> scripts) throws Exception {
        Path root = Files.createTempDirectory("readme");
        try {
            Path main = Files.createDirectory(root.resolve("main"));
            Files.createSymbolicLink(main.resolve("src"), Path.of("src").toAbsolutePath());
            Files.createSymbolicLink(root.resolve("shared"), Path.of("../shared").toAbsolutePath());
            Files.writeString(main.resolve("Example.java"), program);
            boolean printed = false;
            int own = 0;
            for (String script : scripts) {
                if (script.strip().equals(OWN_COMMAND)) {
                    own++;
                    continue;
                }
                String output = run(main, script);
                printed |= script.contains("Example") && output.equals(prints);
            }
            if (!printed) {
                fault("the example does not print what is told");
            }
            if (own != 1 || !Files.isExecutable(Path.of(OWN_COMMAND))) {
                fault(OWN_COMMAND + " is to be told, and to be there");
            }
        } finally {
            delete(root);
        }
    }

    private static String run(Path directory, String script) throws Exception {
        Process process = new ProcessBuilder("sh", "-e", "-c", script).directory(directory.toFile())
                .redirectErrorStream(true).start();
        process.getOutputStream().close();
        String output = new String(process.getInputStream().readAllBytes());
        if (process.waitFor() != 0) {
            fault("failed: " + script + output);
        }
        return output;
    }

    private static void delete(Path root) throws IOException {
        List<Path> all;
        try (Stream<Path> walk = Files.walk(root)) {
            all = walk.sorted(Comparator.reverseOrder()).toList();
        }
        for (Path path : all) {
            Files.delete(path);
        }
    }

    private static void calls(String page) {
        for (Method m : RiggingLoft.class.getDeclaredMethods()) {
            String names = "\\w*(, \\w+){" + Math.max(0, m.getParameterCount() - 1) + "}";
            Pattern row = Pattern.compile("(?m)^\\| `" + m.getName() + "\\(" + names + "\\)` \\|");
            if (Modifier.isPublic(m.getModifiers()) && !row.matcher(page).find()) {
                fault("no table has " + m.getName());
            }
        }
    }

    private static void findings(String page) {
        for (int i = 0; i < FINDINGS.length; i++) {
            if (!page.contains("\n| " + (i + 1) + " " + FINDINGS[i] + " |")) {
                fault("no table has " + FINDINGS[i]);
            }
        }
    }

    private static void tests(String page) throws IOException {
        try (Stream<Path> files = Files.list(Path.of("src/test/java"))) {
            for (Path file : files.toList()) {
                String name = file.getFileName().toString().replace(".java", "");
                if (name.endsWith("Test") && !page.contains("`" + name + "`")) {
                    fault("README.md does not tell of " + name);
                }
            }
        }
    }
}
