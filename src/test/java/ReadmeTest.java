import java.io.IOException;
import java.nio.file.Files;
import java.nio.file.Path;
import java.util.List;
import java.util.Set;
import java.util.TreeSet;
import java.util.regex.MatchResult;
import java.util.regex.Matcher;
import java.util.regex.Pattern;
import java.util.stream.Collectors;
import java.util.stream.Stream;

/** README.md as the class and its tests are now; the class's path is the argument. */
public final class ReadmeTest {
    private static final Due t = new Due();

    public static void main(String[] args) throws IOException {
        Path source = Path.of(args.length > 0 ? args[0] : "src/main/java/FluxWatch.java").toAbsolutePath();
        Path root = source.getParent().getParent().getParent().getParent();
        String page = Files.readString(root.resolve("README.md"));
        for (String block : found(page, "(?s)```java\n(.*?)```")) {
            example(block);
        }
        t.due("examples", found(page, "(?s)```java\n(.*?)```").size() > 0 ? 1 : 0, 1);
        calls(page, Files.readString(source));
        tests(page, root.resolve("src/test/java"));
        edges(page, root.resolve("src/test/java/CoilsEdgesTest.java"));
        t.end();
    }

    private static List<String> found(String text, String pattern) {
        return Pattern.compile(pattern).matcher(text).results().map(m -> m.group(1)).toList();
    }

    /** Each line is a call of x with its answer behind it, but for the one that makes x. */
    private static void example(String block) {
        FluxWatch x = null;
        Pattern line = Pattern.compile("x\\.(\\w+\\(.*\\)); +// ([-A-Z0-9]+)(: .*)?");
        for (String told : block.split("\n")) {
            if (told.equals("FluxWatch x = new FluxWatch();")) {
                x = new FluxWatch();
                continue;
            }
            Matcher m = line.matcher(told);
            boolean call = m.matches();
            t.due("an example's line: " + told, call && x != null ? 1 : 0, 1);
            if (call && x != null) {
                String script = m.group(1).replace("FluxWatch.", "") + " " + m.group(2);
                for (Call c : Call.script(script)) {
                    t.due("README: " + told, c.on(x), c.due());
                }
            }
        }
    }

    private static void calls(String page, String source) {
        Matcher m = Pattern.compile("public int (\\w+)\\((.*?)\\) \\{").matcher(source);
        int many = 0;
        for (MatchResult r : m.results().toList()) {
            String call = r.group(1) + "(" + r.group(2).replace("int ", "") + ")";
            t.due("README names " + call, page.contains("`" + call + "`") ? 1 : 0, 1);
            many++;
        }
        t.due("calls", many, FluxWatch.class.getMethods().length - Object.class.getMethods().length);
    }

    private static void tests(String page, Path folder) throws IOException {
        Set<String> told = new TreeSet<>(found(page, "\\| `(\\w+Test)` \\|"));
        Set<String> are;
        try (Stream<Path> files = Files.list(folder)) {
            are = files.map(f -> f.getFileName().toString()).filter(f -> f.endsWith("Test.java"))
                .map(f -> f.substring(0, f.length() - 5)).collect(Collectors.toCollection(TreeSet::new));
        }
        t.due("README tells the tests " + told + ", there are " + are, told.equals(are) ? 1 : 0, 1);
    }

    private static void edges(String page, Path file) throws IOException {
        String tests = Files.readString(file);
        List<String> told = found(page, "(t\\.edge\\(.*\\);)");
        t.due("edges in README", told.size() > 0 ? 1 : 0, 1);
        for (String edge : told) {
            t.due("README's edge stands: " + edge, tests.contains(edge) ? 1 : 0, 1);
        }
    }
}
