import java.io.IOException;
import java.lang.reflect.Method;
import java.lang.reflect.Modifier;
import java.nio.charset.StandardCharsets;
import java.nio.file.Files;
import java.nio.file.Path;
import java.util.ArrayList;
import java.util.Comparator;
import java.util.List;
import java.util.TreeSet;
import java.util.regex.Matcher;
import java.util.regex.Pattern;
import java.util.stream.Stream;

/** README.md: its calls are compiled and run in the way that it says, and each answer that it names is asked for. */
public final class ReadmeTest {
    /** A call, and behind it the answer that the page names. */
    private static final Pattern ANSWERED = Pattern.compile("(router\\.(\\w+)\\(.*\\));\\s*// (-?\\d+)(?::.*)?");
    /** Lines of an example that have no answer of their own. */
    private static final Pattern UNANSWERED = Pattern.compile("(JoinRouter )?router = new JoinRouter\\(\\);|put\\(router, \".*\"\\);");
    private static final String ALL_TESTS = ".ci/run";
    private static int wrong = 0;

    public static void main(String[] args) throws Exception {
        String page = Files.readString(Path.of("README.md"));
        Path room = Files.createTempDirectory("readme");
        try {
            copySources(room);
            List<String> examples = blocks(page, "java");
            Files.writeString(room.resolve("Yours.java"), program(examples));
            commands(page, room);
            namesEachCall(examples);
            namesEachTest(page);
        } finally {
            delete(room);
        }
        System.out.println(wrong == 0 ? "README.md is as the class is" : wrong + " things in README.md are not so");
        if (wrong != 0) {
            System.exit(1);
        }
    }

    private static void ask(boolean isSo, String what) {
        if (!isSo) {
            wrong++;
            System.out.println("README.md: " + what);
        }
    }

    private static List<String> blocks(String page, String kind) {
        List<String> all = new ArrayList<>();
        Matcher block = Pattern.compile("(?ms)^```" + kind + "\n(.*?)^```$").matcher(page);
        while (block.find()) {
            all.add(block.group(1));
        }
        ask(!all.isEmpty(), "has a block of " + kind);
        return all;
    }

    /** The program that the examples are together: methods as they stand, all else in main, each answer asked for. */
    private static String program(List<String> examples) {
        StringBuilder methods = new StringBuilder();
        StringBuilder body = new StringBuilder();
        for (String example : examples) {
            if (example.startsWith("static ")) {
                methods.append(example);
                continue;
            }
            for (String line : example.split("\n")) {
                body.append(line.isBlank() ? "" : statement(line)).append('\n');
            }
        }
        return "public final class Yours {\nprivate static int wrong = 0;\n" + methods
                + "private static void due(String call, long got, long want) {\n"
                + "if (got != want) { wrong++; System.out.println(\"README.md: \" + call + \" answered \" + got + \", it says \" + want); }\n}\n"
                + "public static void main(String[] args) {\n" + body + "if (wrong != 0) { System.exit(1); }\n}\n}\n";
    }

    private static String statement(String line) {
        Matcher answered = ANSWERED.matcher(line);
        if (answered.matches()) {
            String call = answered.group(1);
            return "due(\"" + call + "\", " + call + ", " + answered.group(3) + "L);";
        }
        ask(UNANSWERED.matcher(line).matches(), "a line without its answer: " + line);
        return line;
    }

    /** Runs what the page says to run, beside that which runs all tests, as this is one of them. */
    private static void commands(String page, Path room) throws Exception {
        boolean runsExample = false;
        boolean runsAll = false;
        for (String block : blocks(page, "sh")) {
            for (String command : block.split("\n")) {
                if (command.equals(ALL_TESTS)) {
                    runsAll = true;
                    continue;
                }
                runsExample |= command.contains("Yours.java") && command.endsWith("java -cp out Yours");
                ask(run(command, room) == 0, "this does not end well: " + command);
            }
        }
        ask(runsExample, "says how to compile and run what uses the class");
        ask(runsAll && Files.isExecutable(Path.of(ALL_TESTS)), "says how to run all tests");
    }

    private static int run(String command, Path room) throws Exception {
        Path told = room.resolve("told");
        Process process = new ProcessBuilder("sh", "-c", command).directory(room.toFile()).redirectErrorStream(true).redirectOutput(told.toFile()).start();
        int code = process.waitFor();
        if (code != 0) {
            System.out.print(Files.readString(told, StandardCharsets.ISO_8859_1));
        }
        return code;
    }

    /** The page is how to use the class, so no call may be left out. */
    private static void namesEachCall(List<String> examples) {
        String all = String.join("\n", examples);
        for (Method method : JoinRouter.class.getDeclaredMethods()) {
            if (Modifier.isPublic(method.getModifiers())) {
                ask(all.contains("router." + method.getName() + "("), "no example of " + method.getName() + "()");
            }
        }
    }

    private static void namesEachTest(String page) throws IOException {
        TreeSet<String> named = new TreeSet<>();
        Matcher name = Pattern.compile("`(\\w+)`").matcher(page.substring(page.indexOf("## Tests")));
        while (name.find()) {
            named.add(name.group(1));
        }
        try (Stream<Path> files = Files.list(Path.of("src/test/java"))) {
            for (Path file : files.toList()) {
                String test = file.getFileName().toString().replace(".java", "");
                ask(named.remove(test), "does not name " + test);
            }
        }
        named.removeIf(other -> !other.endsWith("Test"));
        ask(named.isEmpty(), "names tests that there are not: " + named);
    }

    private static void copySources(Path room) throws IOException {
        try (Stream<Path> files = Files.walk(Path.of("src"))) {
            for (Path file : files.toList()) {
                Files.copy(file, room.resolve(file.toString()));
            }
        }
    }

    private static void delete(Path room) throws IOException {
        try (Stream<Path> files = Files.walk(room)) {
            for (Path file : files.sorted(Comparator.reverseOrder()).toList()) {
                Files.delete(file);
            }
        }
    }
}
