import java.lang.reflect.Method;
import java.lang.reflect.Modifier;
import java.net.URL;
import java.net.URLClassLoader;
import java.nio.file.Files;
import java.nio.file.Path;
import java.util.ArrayList;
import java.util.List;
import java.util.regex.Matcher;
import java.util.regex.Pattern;
import java.util.stream.Stream;
import javax.tools.ToolProvider;

/** What README.md shows as Java is compiled and run as it stands there; each answer behind a call is compared. */
public final class ReadmeShows {
    private static final Pattern ANSWERED = Pattern.compile("(castle\\..*); // (-?\\d+|true|false)(:.*)?");
    private static final String USE = "ReadmeUse";

    private static int answers = 0;
    private static int wrong = 0;

    public static void main(String[] args) throws Exception {
        List<String> page = Files.readAllLines(Path.of("README.md"));
        runWhatIsShown(blocks(page, "java"));
        looksForEachCall(blocks(page, "java"));
        looksForEachTest(String.join("\n", page));
        looksForTheCommand(blocks(page, "sh"));
        System.out.println(wrong == 0 ? answers + " answers of README.md are as it says" : "README.md is wrong");
        if (wrong != 0) {
            System.exit(1);
        }
    }

    /** The code in question calls this, and so do the checks here. */
    public static void due(String what, String got, String want) {
        if (!got.equals(want)) {
            wrong++;
            System.out.println("README.md: " + what + " is " + got + ", due is " + want);
        }
    }

    private static List<List<String>> blocks(List<String> page, String language) {
        List<List<String>> blocks = new ArrayList<>();
        List<String> block = null;
        for (String line : page) {
            if (line.equals("```" + language)) {
                block = new ArrayList<>();
                blocks.add(block);
            } else if (line.startsWith("```")) {
                block = null;
            } else if (block != null) {
                block.add(line);
            }
        }
        return blocks;
    }

    private static void runWhatIsShown(List<List<String>> blocks) throws Exception {
        Path folder = Files.createTempDirectory("readme");
        Path source = folder.resolve(USE + ".java");
        Files.writeString(source, sourceOf(blocks));
        String classes = System.getProperty("java.class.path");
        int compiled = ToolProvider.getSystemJavaCompiler().run(null, null, null,
            "-cp", classes, "-d", folder.toString(), source.toString());
        due("compiling what is shown", "" + compiled, "0");
        if (compiled == 0) {
            try (URLClassLoader loader = new URLClassLoader(new URL[] {folder.toUri().toURL()})) {
                loader.loadClass(USE).getMethod("use").invoke(null);
            }
        }
        due("whether answers are shown", "" + (answers > 0), "true");
        removeAll(folder);
    }

    private static void removeAll(Path folder) throws Exception {
        try (Stream<Path> files = Files.list(folder)) {
            for (Path file : files.toList()) {
                Files.delete(file);
            }
        }
        Files.delete(folder);
    }

    /** A block that begins with a method is a helper of the others; each other one has a castle of its own. */
    private static String sourceOf(List<List<String>> blocks) {
        StringBuilder helpers = new StringBuilder();
        StringBuilder uses = new StringBuilder();
        for (List<String> block : blocks) {
            if (block.get(0).startsWith("static ")) {
                helpers.append(String.join("\n", block)).append('\n');
            } else {
                uses.append("{\n");
                block.forEach(line -> uses.append(compared(line)).append('\n'));
                uses.append("}\n");
            }
        }
        return "public class " + USE + " {\n" + helpers + "public static void use() {\n" + uses + "}\n}\n";
    }

    private static String compared(String line) {
        Matcher answered = ANSWERED.matcher(line);
        if (!answered.matches()) {
            due("whether an answer is told behind: " + line, "" + !line.startsWith("castle."), "true");
            return line;
        }
        answers++;
        String call = answered.group(1);
        return "ReadmeShows.due(\"" + call + "\", \"\" + " + call + ", \"" + answered.group(2) + "\");";
    }

    private static void looksForEachCall(List<List<String>> blocks) {
        String shown = blocks.toString();
        for (Method method : SandGuards.class.getDeclaredMethods()) {
            if (Modifier.isPublic(method.getModifiers())) {
                due("whether it shows " + method.getName(), "" + shown.contains("castle." + method.getName() + "("), "true");
            }
        }
    }

    private static void looksForEachTest(String page) throws Exception {
        try (Stream<Path> files = Files.list(Path.of("src/test/java"))) {
            for (Path file : files.toList()) {
                String name = file.getFileName().toString().replace(".java", "");
                due("whether it names the test " + name, "" + page.contains("`" + name + "`"), "true");
            }
        }
    }

    private static void looksForTheCommand(List<List<String>> blocks) {
        String command = blocks.isEmpty() ? "" : String.join("\n", blocks.get(0));
        due("the command that runs all tests", command, ".ci/run");
        due("whether " + command + " can be run", "" + Files.isExecutable(Path.of(command)), "true");
    }
}
