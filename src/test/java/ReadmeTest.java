import java.io.IOException;
import java.nio.file.DirectoryStream;
import java.nio.file.Files;
import java.nio.file.Path;
import java.util.ArrayList;
import java.util.List;
import java.util.TreeMap;
import java.util.TreeSet;
import java.util.regex.Matcher;
import java.util.regex.Pattern;
import javax.tools.ToolProvider;

/**
 * README.md agrees with the class, the document and the project: its Java examples are compiled and answer what stands
 * behind them, its tables list the document's face with its exceptions, and its list of tests has each file of them.
 */
public final class ReadmeTest {
    private static final Path README = Path.of("README.md");
    private static final Path DOCUMENT = Path.of("../shared/DOC.md");
    private static final Path TESTS = Path.of("src/test/java");
    private static final Path SOURCES = Path.of("build/readme");
    private static final Path CLASSES = Path.of("build/own");
    private static final String STORY = "ReadmeStory";

    private static final Pattern ANSWERED =
            Pattern.compile("(.*?;) +// (?:throws (\\w+)|\"([^\"]*)\"|(-?[0-9.]+|true|false))(?:, .*)?");
    private static final Pattern DECLARED = Pattern.compile("(\\w+) (\\w+) = .*");
    private static final Pattern METHOD = Pattern.compile("    public \\w+ (\\w+)\\((.*)\\)(?: throws (.*))?;");
    private static final Pattern EXCEPTION = Pattern.compile("`(\\w+Exception)`");

    public static void main(String[] args) throws IOException, ReflectiveOperationException {
        faceIsListed();
        exceptionsAreTold();
        commandsAreTold();
        testsAreListed();
        examples();
        Due.end();
    }

    // ---- the tables

    /** The exceptions of each method, in the document's order, behind its call as the tables write it. */
    private static TreeMap<String, String> face() throws IOException {
        TreeMap<String, String> face = new TreeMap<>();
        for (String line : Files.readAllLines(DOCUMENT)) {
            Matcher matcher = METHOD.matcher(line);
            if (matcher.matches()) {
                String names = matcher.group(2).replaceAll("\\w+ (\\w+)", "$1");
                face.put(matcher.group(1) + "(" + names + ")", matcher.group(3) == null ? "" : matcher.group(3));
            }
        }
        return face;
    }

    private static void faceIsListed() throws IOException {
        TreeMap<String, String> face = face();
        TreeSet<String> listed = new TreeSet<>();
        for (String line : Files.readAllLines(README)) {
            String[] cells = line.split(" *\\| *");
            if (cells.length == 4 && cells[1].endsWith(")`")) {
                String call = cells[1].substring(1, cells[1].length() - 1);
                Due.is("one row alone: " + call, listed.add(call), true);
                Due.is("exceptions of " + call, exceptionsIn(cells[3]), face.getOrDefault(call, "no such method"));
                Due.is("it throws nothing: " + call, cells[3].equals("nothing"), exceptionsIn(cells[3]).isEmpty());
            }
        }
        Due.is("methods of the face", face.size(), 47);
        Due.is("calls in the tables", String.join(" ", listed), String.join(" ", face.keySet()));
    }

    private static String exceptionsIn(String cell) {
        List<String> names = new ArrayList<>();
        Matcher matcher = EXCEPTION.matcher(cell);
        while (matcher.find()) {
            names.add(matcher.group(1));
        }
        return String.join(", ", names);
    }

    private static void exceptionsAreTold() throws IOException {
        TreeSet<String> due = new TreeSet<>();
        for (String names : face().values()) {
            due.addAll(names.isEmpty() ? List.of() : List.of(names.split(", ")));
        }
        TreeSet<String> told = new TreeSet<>();
        for (String line : Files.readAllLines(README)) {
            Matcher matcher = Pattern.compile("\\| `(\\w+Exception)` \\|.*").matcher(line);
            if (matcher.matches()) {
                told.add(matcher.group(1));
            }
        }
        Due.is("exceptions that are told", String.join(" ", told), String.join(" ", due));
    }

    /** The document writes a digit and a number where the README writes a letter. */
    private static void commandsAreTold() throws IOException {
        TreeSet<String> due = new TreeSet<>();
        for (String line : Files.readAllLines(DOCUMENT)) {
            if (line.startsWith("command = ") || line.trim().startsWith("| \"")) {
                for (String form : line.replaceFirst("command = ", "").split("\\|")) {
                    due.add(form.replace("digit", "1").replace("number", "12").replaceAll("[\" ]+", " ").trim());
                }
            }
        }
        due.remove("");
        TreeSet<String> told = new TreeSet<>();
        for (String line : Files.readAllLines(README)) {
            Matcher matcher = Pattern.compile("\\| `([a-z]+( [A-Z])+)` \\|.*").matcher(line);
            if (matcher.matches()) {
                told.add(matcher.group(1).replaceAll("[SDT]", "1").replaceAll("[RMN]", "12"));
            }
        }
        Due.is("commands", due.size(), 7);
        Due.is("commands that are told", String.join(";", told), String.join(";", due));
    }

    private static void testsAreListed() throws IOException {
        String readme = Files.readString(README);
        try (DirectoryStream<Path> files = Files.newDirectoryStream(TESTS, "*.java")) {
            for (Path file : files) {
                String name = file.getFileName().toString().replace(".java", "");
                Due.is("the list of tests names " + name, readme.matches("(?s).*`@?" + name + "`.*"), true);
            }
        }
        Matcher named = Pattern.compile("`(\\w+Test)`").matcher(readme);
        while (named.find()) {
            Due.is("there is such a test: " + named.group(1), Files.exists(TESTS.resolve(named.group(1) + ".java")), true);
        }
    }

    // ---- the examples

    private static void examples() throws IOException, ReflectiveOperationException {
        StringBuilder members = new StringBuilder();
        StringBuilder story = new StringBuilder();
        for (List<String> block : javaBlocks()) {
            boolean isMethod = block.get(0).startsWith("static ");
            for (String line : block) {
                (isMethod ? members.append(line) : story.append(asked(line))).append('\n');
            }
        }
        Files.createDirectories(SOURCES);
        Path source = SOURCES.resolve(STORY + ".java");
        Files.writeString(source, "import java.util.NoSuchElementException;\n\npublic final class " + STORY + " {\n"
                + members + "public static void tell() {\n" + story + "}\n}\n");
        int faults = ToolProvider.getSystemJavaCompiler().run(null, null, null, "-cp", CLASSES.toString(),
                "-d", CLASSES.toString(), source.toString());
        Due.is("faults in the examples", faults, 0);
        if (faults == 0) {
            int before = Due.countAsked();
            Class.forName(STORY).getMethod("tell").invoke(null);
            Due.is("the examples answer something", Due.countAsked() > before + 40, true);
        }
    }

    private static List<List<String>> javaBlocks() throws IOException {
        List<List<String>> blocks = new ArrayList<>();
        boolean isInside = false;
        for (String line : Files.readAllLines(README)) {
            if (line.equals("```java")) {
                blocks.add(new ArrayList<>());
                isInside = true;
            } else if (line.equals("```")) {
                isInside = false;
            } else if (isInside) {
                blocks.get(blocks.size() - 1).add(line);
            }
        }
        return blocks;
    }

    /** The line with a comparison of what it answers with what stands behind it. */
    private static String asked(String line) {
        Matcher matcher = ANSWERED.matcher(line);
        if (!matcher.matches()) {
            Due.is("an example that tells nothing to compare: " + line, line.contains("//"), false);
            return line;
        }
        String call = matcher.group(1).replaceFirst(";$", "");
        String what = quoted("example " + call);
        if (matcher.group(2) != null) {
            return "Due.fails(" + what + ", " + matcher.group(2) + ".class, () -> " + call + ");";
        }
        String due = quoted(matcher.group(3) != null ? matcher.group(3) : matcher.group(4));
        Matcher declared = DECLARED.matcher(call);
        if (declared.matches()) {
            return call + "; Due.is(" + what + ", String.valueOf(" + declared.group(2) + "), " + due + ");";
        }
        return "Due.is(" + what + ", String.valueOf(" + call + "), " + due + ");";
    }

    private static String quoted(String text) {
        return "\"" + text.replace("\\", "\\\\").replace("\"", "\\\"") + "\"";
    }
}
