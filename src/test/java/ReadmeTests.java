import java.io.IOException;
import java.net.URL;
import java.net.URLClassLoader;
import java.nio.file.Files;
import java.nio.file.Path;
import java.util.ArrayList;
import java.util.List;
import java.util.regex.Matcher;
import java.util.regex.Pattern;
import javax.tools.JavaCompiler;
import javax.tools.ToolProvider;

/** The examples and the commands of README.md, each true as it stands. */
final class ReadmeTests {
    private static final Path README = Path.of("README.md");
    private static final Path CI = Path.of(".ci/run");
    private static final String NAME = "ReadmeExample";
    private static final Pattern ANSWERS = Pattern.compile("((?:int \\w+ = )?)(.*);\\s*// -> ([\\w-]+)(?:,.*)?");
    private static final Pattern THROWS = Pattern.compile("(.*);\\s*// throws (\\w+)(?:,.*)?");
    private static final int EXAMPLES = 5;

    private ReadmeTests() {
    }

    static void run() throws Exception {
        List<List<String>> examples = blocks("java");
        Check.due("examples in README.md", examples.size(), EXAMPLES);
        Path made = Files.createTempDirectory("readme");
        for (int i = 0; i < examples.size(); i++) {
            runExample(examples.get(i), NAME + i, made);
        }
        removeAll(made);
        calls(examples);
        constants();
        commands();
    }

    /** The lines of each block of the language in README.md. */
    private static List<List<String>> blocks(String language) throws IOException {
        List<List<String>> blocks = new ArrayList<>();
        List<String> block = null;
        for (String line : Files.readAllLines(README)) {
            if (line.equals("```" + language)) {
                block = new ArrayList<>();
                blocks.add(block);
            } else if (line.startsWith("```")) {
                block = null;
            } else if (block != null) {
                block.add(line);
            }
        }
        return blocks;
    }

    /** Each line that tells an answer or an exception leaves what came of it in a list. */
    private static void runExample(List<String> example, String name, Path made) throws Exception {
        StringBuilder program = new StringBuilder("public final class " + name
                + " { public static java.util.List<String> run() {"
                + " java.util.List<String> got = new java.util.ArrayList<>();\n");
        List<String> told = new ArrayList<>();
        List<String> due = new ArrayList<>();
        for (String line : example) {
            Matcher answers = ANSWERS.matcher(line.strip());
            Matcher refused = THROWS.matcher(line.strip());
            if (answers.matches()) {
                told.add(line);
                due.add(valueOf(answers.group(3)));
                program.append(watched(answers.group(1), answers.group(2), told.size()));
            } else if (refused.matches()) {
                told.add(line);
                due.add(refused.group(2));
                program.append("try { ").append(refused.group(1)).append("; got.add(\"nothing\"); }"
                        + " catch (RuntimeException e) { got.add(e.getClass().getSimpleName()); }\n");
            } else {
                Check.due("README.md, a line that tells an answer in another form: " + line,
                        line.contains("->") || line.contains("throws"), false);
                program.append(line).append('\n');
            }
        }
        program.append("return got; } }\n");
        List<String> got = answersOf(program.toString(), name, made);
        Check.due("README.md, answers in " + name, got.size(), due.size());
        for (int i = 0; i < got.size() && i < due.size(); i++) {
            Check.due("README.md, " + told.get(i).strip(), got.get(i), due.get(i));
        }
    }

    private static String watched(String declaration, String call, int number) {
        if (declaration.isEmpty()) {
            return "got.add(String.valueOf(" + call + "));\n";
        }
        String variable = declaration.split(" ")[1];
        return declaration + call + "; got.add(String.valueOf(" + variable + "));\n";
    }

    /** A constant's name stands for its value. */
    private static String valueOf(String word) throws Exception {
        return word.matches("[A-Z]+") ? String.valueOf(ShelfSwarm.class.getField(word).getInt(null)) : word;
    }

    private static List<String> answersOf(String program, String name, Path made) throws Exception {
        Path source = made.resolve(name + ".java");
        Files.writeString(source, program);
        JavaCompiler compiler = ToolProvider.getSystemJavaCompiler();
        int failed = compiler.run(null, null, null, "-cp", System.getProperty("java.class.path"),
                "-d", made.toString(), source.toString());
        Check.due("README.md, " + name + " compiles", failed, 0);
        List<String> answers = new ArrayList<>();
        if (failed == 0) {
            try (URLClassLoader loader = new URLClassLoader(new URL[] {made.toUri().toURL()})) {
                Object list = loader.loadClass(name).getMethod("run").invoke(null);
                for (Object answer : (List<?>) list) {
                    answers.add((String) answer);
                }
            }
        }
        return answers;
    }

    private static void removeAll(Path directory) throws IOException {
        try (var files = Files.list(directory)) {
            for (Path file : (Iterable<Path>) files::iterator) {
                Files.delete(file);
            }
        }
        Files.delete(directory);
    }

    /** Each method of the face is told in the table of calls and used in an example. */
    private static void calls(List<List<String>> examples) throws IOException {
        String text = Files.readString(README);
        for (var method : ShelfSwarm.class.getDeclaredMethods()) {
            if (java.lang.reflect.Modifier.isPublic(method.getModifiers())) {
                String name = method.getName();
                Check.due("README.md tells of " + name, text.contains("`" + name + "`"), true);
                Check.due("README.md uses " + name, examples.toString().contains("swarm." + name + "("), true);
            }
        }
    }

    private static void constants() throws Exception {
        String text = Files.readString(README);
        for (String name : "NONE IDLE FETCHING BRINGING SERVING RETURNING DEAD".split(" ")) {
            String row = "| `" + name + "` | " + valueOf(name) + " |";
            Check.due("README.md has the row " + row, text.contains(row), true);
        }
    }

    /** The commands for a run by hand are those that .ci/run takes. */
    private static void commands() throws IOException {
        String script = Files.readString(CI);
        List<List<String>> told = blocks("sh");
        Check.due("blocks of commands in README.md", told.size(), 1);
        for (List<String> block : told) {
            for (String command : block) {
                boolean isAnExample = command.startsWith("test=");
                Check.due("README.md, in .ci/run: " + command, isAnExample || script.contains(command), true);
            }
        }
    }
}
