import java.io.IOException;
import java.lang.reflect.Method;
import java.lang.reflect.Modifier;
import java.nio.file.Files;
import java.nio.file.Path;
import java.util.ArrayList;
import java.util.Comparator;
import java.util.List;
import java.util.regex.Matcher;
import java.util.regex.Pattern;
import java.util.stream.Collectors;
import java.util.stream.Stream;

/** README.md is followed to the letter in a folder that has only src: what it says works there, and prints what it tells. */
public final class ReadmeTest {
    private static final String ALL_TESTS = ".ci/run\n";
    private static final Pattern PRINTED = Pattern.compile("System\\.out\\.println\\(.*\\);\\s*// (-?\\d+):");
    private static final Check check = new Check();
    private static String readme = "";

    public static void main(String[] args) throws Exception {
        readme = Files.readString(Path.of("README.md"));
        table();
        testsAreTold();
        Path folder = Files.createTempDirectory("readme");
        try {
            copy(Path.of("src"), folder);
            follow(folder);
        } finally {
            remove(folder);
        }
        check.end();
    }

    /** The texts between the marks of a language. */
    private static List<String> blocks(String language) {
        List<String> all = new ArrayList<>();
        Matcher block = Pattern.compile("(?ms)^```" + language + "\n(.*?)^```$").matcher(readme);
        while (block.find()) {
            all.add(block.group(1));
        }
        return all;
    }

    private static void table() {
        int faces = 0;
        for (Method m : NoiseBench.class.getDeclaredMethods()) {
            if (Modifier.isPublic(m.getModifiers())) {
                faces++;
                check.isTrue("a row of the table tells " + m.getName(), rowOf(m.getName(), m.getParameterCount()));
            }
        }
        check.due("calls of the face", faces, 23);
    }

    private static boolean rowOf(String name, int numbers) {
        Matcher row = Pattern.compile("(?m)^\\| `" + name + "\\(([^)]*)\\)` \\|").matcher(readme);
        if (!row.find()) {
            return false;
        }
        return numbers == (row.group(1).isEmpty() ? 0 : row.group(1).split(", ").length);
    }

    private static void testsAreTold() throws IOException {
        try (Stream<Path> files = Files.list(Path.of("src/test/java"))) {
            for (Path file : files.collect(Collectors.toList())) {
                String name = file.getFileName().toString().replace(".java", "");
                if (name.endsWith("Test")) {
                    check.isTrue(name + " is told", readme.contains("\n- `" + name + "`: "));
                }
            }
        }
    }

    private static void follow(Path folder) throws Exception {
        List<String> programs = blocks("java");
        List<String> commands = blocks("sh");
        check.due("one program", programs.size(), 1);
        check.isTrue("all tests are run so", commands.contains(ALL_TESTS) && Files.isExecutable(Path.of(".ci/run")));
        if (programs.size() != 1) {
            return;
        }
        Files.writeString(folder.resolve("Example.java"), programs.get(0));
        int examples = 0;
        for (String command : commands) {
            // CI runs this one itself, and it would come back here.
            if (!command.equals(ALL_TESTS)) {
                boolean isExample = command.contains("java -cp out Example");
                examples += isExample ? 1 : 0;
                run(folder, command, isExample ? printed(programs.get(0)) : null);
            }
        }
        check.due("the program is run once", examples, 1);
    }

    private static List<String> printed(String program) {
        List<String> rows = new ArrayList<>();
        Matcher row = PRINTED.matcher(program);
        while (row.find()) {
            rows.add(row.group(1));
        }
        check.isTrue("each row tells what it prints", rows.size() > 0 && rows.size() == program.split("println").length - 1);
        return rows;
    }

    private static void run(Path folder, String command, List<String> want) throws Exception {
        Process process = new ProcessBuilder("sh", "-e", "-c", command).directory(folder.toFile())
            .redirectErrorStream(true).start();
        String text = new String(process.getInputStream().readAllBytes());
        check.due("exit code of " + command + text, process.waitFor(), 0);
        if (want != null) {
            List<String> got = text.lines().collect(Collectors.toList());
            check.isTrue("printed is " + got + ", told is " + want, got.equals(want));
        }
    }

    private static void copy(Path from, Path folder) throws IOException {
        try (Stream<Path> files = Files.walk(from)) {
            for (Path file : files.collect(Collectors.toList())) {
                Files.copy(file, folder.resolve(file.toString()));
            }
        }
    }

    private static void remove(Path folder) throws IOException {
        try (Stream<Path> files = Files.walk(folder)) {
            for (Path file : files.sorted(Comparator.reverseOrder()).collect(Collectors.toList())) {
                Files.delete(file);
            }
        }
    }
}
