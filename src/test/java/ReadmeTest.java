import java.io.File;
import java.io.IOException;
import java.lang.reflect.Method;
import java.lang.reflect.Modifier;
import java.nio.file.Files;
import java.nio.file.Path;
import java.util.ArrayList;
import java.util.List;
import java.util.TreeSet;
import java.util.regex.MatchResult;
import java.util.regex.Matcher;
import java.util.regex.Pattern;

/** What README.md says is so: its example and commands, its table of refused calls, its list of tests. */
public final class ReadmeTest {
    private static final Path SOURCE = Path.of("src/main/java/DualRing.java");
    private static final Path TESTS = Path.of("src/test/java");

    /** A row of the table: a call, what it answers, and why. */
    private static final Pattern ROW = Pattern.compile("(?m)^\\| `(\\w+\\([^`]*\\))` \\| `([^`]*)` \\| .* \\|$");

    private static final Due due = new Due();

    public static void main(String[] args) throws IOException, InterruptedException {
        String readme = Files.readString(Path.of("README.md"));
        String commands = block(readme, "sh");
        String example = block(readme, "java");
        due.text("the example", printed("Example", example, commands), block(readme, "text"));
        tableIsSo(readme, commands);
        testsAreNamed(readme);
        due.end();
    }

    /** The lines of the first block of this kind. */
    private static String block(String readme, String kind) {
        Matcher block = Pattern.compile("(?s)\n```" + kind + "\n(.*?\n)```\n").matcher(readme);
        boolean found = block.find();
        due.yes("a block of kind " + kind, found);
        return found ? block.group(1) : "";
    }

    /** What the README's commands print in a new folder that has the class and this program only. */
    private static String printed(String name, String program, String commands) throws IOException, InterruptedException {
        Path folder = Files.createTempDirectory("readme");
        try {
            Files.createDirectories(folder.resolve(SOURCE).getParent());
            Files.copy(SOURCE, folder.resolve(SOURCE));
            Files.writeString(folder.resolve(name + ".java"), program);
            ProcessBuilder shell = new ProcessBuilder("sh", "-e", "-c", commands);
            Process process = shell.directory(folder.toFile()).redirectErrorStream(true).start();
            process.getOutputStream().close();
            String output = new String(process.getInputStream().readAllBytes());
            due.is("exit code of the commands for " + name, process.waitFor(), 0);
            return output;
        } finally {
            delete(folder.toFile());
        }
    }

    private static void delete(File file) {
        File[] inside = file.listFiles();
        if (inside != null) {
            for (File each : inside) {
                delete(each);
            }
        }
        file.delete();
    }

    private static void tableIsSo(String readme, String commands) throws IOException, InterruptedException {
        List<MatchResult> rows = ROW.matcher(readme).results().toList();
        StringBuilder program = new StringBuilder("public final class Refused {\n");
        program.append("    public static void main(String[] args) {\n");
        program.append("        DualRing x = new DualRing(4);\n");
        TreeSet<String> called = new TreeSet<>();
        for (MatchResult row : rows) {
            program.append("        System.out.println(x.").append(row.group(1)).append(");\n");
            called.add(row.group(1).substring(0, row.group(1).indexOf('(')));
        }
        program.append("    }\n}\n");
        String[] answers = printed("Refused", program.toString(), commands.replace("Example", "Refused")).split("\n");
        due.is("answers of the table's calls", answers.length, rows.size());
        for (int i = 0; i < answers.length && i < rows.size(); i++) {
            due.text("the table: " + rows.get(i).group(1), rows.get(i).group(2), answers[i]);
        }
        due.text("calls of the table", called.toString(), callsWithArguments().toString());
    }

    private static TreeSet<String> callsWithArguments() {
        TreeSet<String> names = new TreeSet<>();
        for (Method method : DualRing.class.getDeclaredMethods()) {
            if (Modifier.isPublic(method.getModifiers()) && method.getParameterCount() > 0) {
                names.add(method.getName());
            }
        }
        return names;
    }

    /** The names that begin the lines of the list stand for files, and each file has its name there. */
    private static void testsAreNamed(String readme) {
        List<Pattern> named = new ArrayList<>();
        Matcher line = Pattern.compile("(?m)^- ((?:`[\\w.]+Test`(?:, )?)+):").matcher(readme);
        while (line.find()) {
            for (String name : line.group(1).replace("`", "").split(", ")) {
                named.add(Pattern.compile(name.replace("NN", "\\d\\d").replace("...", "\\w+")));
            }
        }
        String[] files = TESTS.toFile().list();
        List<String> tests = new ArrayList<>();
        for (String file : files == null ? new String[0] : files) {
            if (file.endsWith("Test.java")) {
                tests.add(file.substring(0, file.length() - ".java".length()));
            }
        }
        for (Pattern name : named) {
            due.yes("a test for the name " + name, tests.stream().anyMatch(test -> name.matcher(test).matches()));
        }
        for (String test : tests) {
            due.yes(test + " is named", named.stream().anyMatch(name -> name.matcher(test).matches()));
        }
    }
}
