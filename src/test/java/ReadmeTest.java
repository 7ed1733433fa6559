import java.io.ByteArrayOutputStream;
import java.io.File;
import java.io.PrintStream;
import java.net.URL;
import java.net.URLClassLoader;
import java.nio.file.Files;
import java.nio.file.Path;
import java.util.ArrayList;
import java.util.Arrays;
import java.util.List;
import java.util.Map;
import java.util.TreeMap;
import java.util.regex.Matcher;
import java.util.regex.Pattern;
import javax.tools.ToolProvider;

/** What README.md shows is run, and what its tables tell is held against the class and the document. */
public final class ReadmeTest {
    private static final Pattern SHOWN = Pattern.compile("outliner\\.(.*); +// (throws )?([-\\w]+)(:.*)?");
    private static final Pattern ROW =
            Pattern.compile("\\| `(\\w+)\\(([^)]*)\\)` \\| [^|]+ \\| ([^|]*)\\| (yes )?\\|");

    public static void main(String[] args) throws Exception {
        String readme = Files.readString(Path.of("README.md"));
        program(readme);
        shownCalls(readme);
        Map<String, String> face = face();
        tables(readme, face);
        tests(readme);
        Check.finish();
    }

    private static List<String> blocks(String readme, String language) {
        List<String> found = new ArrayList<>();
        Matcher block = Pattern.compile("(?s)```" + language + "\n(.*?)```").matcher(readme);
        while (block.find()) {
            found.add(block.group(1));
        }
        return found;
    }

    /** The whole program prints what README.md says. */
    private static void program(String readme) throws Exception {
        List<String> programs = new ArrayList<>(blocks(readme, "java"));
        programs.removeIf(block -> !block.contains("class Yours"));
        Check.equal("whole programs", programs.size(), 1);
        Check.equal("what they print", blocks(readme, "text").size(), 1);
        Path folder = Files.createTempDirectory("readme");
        Path source = folder.resolve("Yours.java");
        try {
            Files.writeString(source, programs.get(0));
            int failed = ToolProvider.getSystemJavaCompiler().run(null, null, null, "-d", folder.toString(),
                    "-cp", System.getProperty("java.class.path"), source.toString());
            Check.equal("the program cannot be compiled", failed, 0);
            Check.equal("the program prints", printed(folder), blocks(readme, "text").get(0));
        } finally {
            for (File file : folder.toFile().listFiles()) {
                file.delete();
            }
            Files.delete(folder);
        }
    }

    private static String printed(Path folder) throws Exception {
        PrintStream before = System.out;
        ByteArrayOutputStream bytes = new ByteArrayOutputStream();
        try (URLClassLoader loader = new URLClassLoader(new URL[] {folder.toUri().toURL()})) {
            System.setOut(new PrintStream(bytes, true));
            loader.loadClass("Yours").getMethod("main", String[].class).invoke(null, (Object) new String[0]);
        } finally {
            System.setOut(before);
        }
        return bytes.toString().replace(System.lineSeparator(), "\n");
    }

    /** Each of the other blocks begins with a new object; the answers stand behind the calls. */
    private static void shownCalls(String readme) throws Exception {
        List<String> shown = new ArrayList<>();
        for (String block : blocks(readme, "java")) {
            if (block.contains("class Yours")) {
                continue;
            }
            StrokeOutliner outliner = new StrokeOutliner();
            for (String line : block.split("\n")) {
                Matcher call = SHOWN.matcher(line);
                Check.equal("it shows a call and its answer: " + line, call.matches() ? 1 : 0, 1);
                String outcome = WrittenCall.outcome(outliner, call.group(1));
                Check.equal(line, outcome, call.group(3));
                Check.equal(line, outcome.endsWith("Exception") ? 1 : 0, call.group(2) == null ? 0 : 1);
                shown.add(call.group(1).replaceAll("\\(.*", ""));
            }
        }
        Check.equal("it shows calls", shown.size() > 50 ? 1 : 0, 1);
    }

    /** Each method of the document: its parameters, its exceptions in their order, and whether it is undoable. */
    private static Map<String, String> face() throws Exception {
        String document = Files.readString(Path.of("../shared/DOC.md"));
        Map<String, String> face = new TreeMap<>();
        for (String promise : document.split("\n## ")) {
            Matcher signature = Pattern.compile("`(?:int|long) (\\w+)\\(([^)]*)\\)(?: throws ([\\w, ]+))?`").matcher(promise);
            if (promise.startsWith("Promise ") && signature.find()) {
                String exceptions = signature.group(3) == null ? "" : signature.group(3);
                boolean undoable = promise.contains("Undoable");
                face.put(signature.group(1), told(signature.group(2), exceptions, undoable));
            }
        }
        Check.equal("the methods of the document", face.size(), 30);
        return face;
    }

    private static String told(String parameters, String exceptions, boolean undoable) {
        return "(" + parameters + ") throws [" + exceptions + "]" + (undoable ? " undoable" : "");
    }

    private static void tables(String readme, Map<String, String> face) {
        Map<String, String> rows = new TreeMap<>();
        for (String line : readme.split("\n")) {
            Matcher row = ROW.matcher(line);
            if (row.matches()) {
                List<String> exceptions = new ArrayList<>();
                Matcher name = Pattern.compile("`(\\w+Exception)`:").matcher(row.group(3));
                while (name.find()) {
                    exceptions.add(name.group(1));
                }
                String before = rows.put(row.group(1), told(row.group(2), String.join(", ", exceptions),
                        row.group(4) != null));
                Check.equal("one row for " + row.group(1), before == null ? 1 : 0, 1);
            }
        }
        Check.equal("the methods in the tables", rows.keySet().toString(), face.keySet().toString());
        for (Map.Entry<String, String> method : face.entrySet()) {
            String row = rows.getOrDefault(method.getKey(), "nothing");
            Check.equal("README.md tells of " + method.getKey(), row, method.getValue());
        }
    }

    /** The list of tests leaves none out. */
    private static void tests(String readme) {
        String[] tests = new File("src/test/java").list((folder, name) -> name.endsWith("Test.java"));
        Arrays.sort(tests);
        for (String test : tests) {
            String row = "| `" + test.replace(".java", "") + "` | ";
            Check.equal("README.md tells of " + test, readme.contains(row) ? 1 : 0, 1);
        }
    }
}
