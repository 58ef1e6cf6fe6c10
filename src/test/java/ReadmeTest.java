import java.io.IOException;
import java.net.URL;
import java.net.URLClassLoader;
import java.nio.file.Files;
import java.nio.file.Path;
import java.util.ArrayList;
import java.util.List;
import java.util.Set;
import java.util.TreeSet;
import java.util.regex.Matcher;
import java.util.regex.Pattern;
import java.util.stream.Stream;
import javax.tools.JavaCompiler;
import javax.tools.ToolProvider;

/** README.md: its examples answer as they say, its commands are those that .ci/run runs, its tests those there are. */
public final class ReadmeTest {
    private static final Path README = Path.of("README.md");
    private static final Path CI = Path.of(".ci/run");
    private static final Path TESTS = Path.of("src/test/java");
    private static final Pattern COMMAND = Pattern.compile("\\bjavac? -[^|;&]*[^|;& ]");

    public static void main(String[] args) throws Exception {
        boolean there = Files.isRegularFile(README) && Files.isExecutable(CI);
        Due.holds("README.md is there, .ci/run can be run", there);
        if (there) look();
        Due.end("ReadmeTest");
    }

    private static void look() throws Exception {
        String page = Files.readString(README);
        commands(page);
        tests(section(page, "Tests"));
        calls(section(page, "Use"));
        classes(section(page, "Inside"));
        example(page);
    }

    /** What stands under a heading, up to the next one like it; empty where there is none. */
    private static String section(String page, String heading) {
        Matcher m = Pattern.compile("(?ms)^## " + heading + "$(.*?)(?=^## |\\z)").matcher(page);
        boolean there = m.find();
        Due.holds("README.md has a part " + heading, there);
        return there ? m.group(1) : "";
    }

    /** The lines of all blocks of one language. */
    private static List<String> block(String text, String language) {
        List<String> lines = new ArrayList<>();
        Matcher m = Pattern.compile("(?ms)^```" + language + "\n(.*?)^```$").matcher(text);
        while (m.find()) lines.addAll(List.of(m.group(1).split("\n")));
        return lines;
    }

    private static void alike(String what, Set<String> got, Set<String> due) {
        Due.holds(what + ": " + got + ", due is " + due, !due.isEmpty() && got.equals(due));
    }

    /** Each command of either is one of the other; the page names .ci/run itself, too. */
    private static void commands(String page) throws IOException {
        Set<String> run = new TreeSet<>();
        for (String line : Files.readAllLines(CI)) {
            Matcher m = COMMAND.matcher(line);
            while (!line.trim().startsWith("#") && m.find()) run.add(m.group());
        }
        Due.is("commands of .ci/run", run.size(), 5);
        run.add(".ci/run");
        alike("commands in README.md", new TreeSet<>(block(section(page, "Tests"), "sh")), run);
        Due.is("blocks elsewhere", block(page, "sh").size(), run.size());
        Matcher within = Pattern.compile("`(javac? [^`]*)`").matcher(section(page, "Tests"));
        while (within.find()) Due.holds(within.group(1) + " is run", run.contains(within.group(1)));
    }

    private static Set<String> found(String text, String pattern) {
        Set<String> found = new TreeSet<>();
        Matcher m = Pattern.compile(pattern).matcher(text);
        while (m.find()) found.add(m.group(1));
        return found;
    }

    private static void tests(String text) throws IOException {
        Set<String> there = new TreeSet<>();
        try (Stream<Path> files = Files.list(TESTS)) {
            files.map(file -> file.getFileName().toString()).filter(name -> name.endsWith("Test.java"))
                .forEach(name -> there.add(name.replace(".java", "")));
        }
        alike("tests in README.md", found(text, "`(\\w+Test)`"), there);
        for (String folder : new String[] {"src/test/java/*Test.java", "../shared/tests"}) {
            Due.holds(folder + " is named", text.contains(folder));
        }
    }

    /** Every call of the face is named, and used in an example. */
    private static void calls(String text) {
        String example = String.join("\n", block(text, "java"));
        Set<String> named = found(text, "`(\\w+)`");
        for (java.lang.reflect.Method m : OldWorks.class.getDeclaredMethods()) {
            if (!java.lang.reflect.Modifier.isPublic(m.getModifiers())) continue;
            Due.holds(m.getName() + " is named", named.contains(m.getName()));
            Due.holds(m.getName() + " is in an example", example.contains("works." + m.getName() + "("));
        }
    }

    private static void classes(String text) {
        Set<String> there = new TreeSet<>();
        for (Class<?> c : OldWorks.class.getDeclaredClasses()) there.add(c.getSimpleName());
        alike("classes in README.md", found(text, "`(\\w+)`"), there);
    }

    /** The java blocks as one method; each line that ends with a number behind // has to answer it. */
    private static void example(String page) throws Exception {
        Pattern asked = Pattern.compile("(works\\..*);\\s+// (-?\\d+)(:.*)?");
        StringBuilder text = new StringBuilder("public final class ReadmeExample {\n"
            + "    public static void answers(java.util.List<Object> all) {\n");
        int answers = 0;
        for (String line : block(page, "java")) {
            Matcher m = asked.matcher(line);
            if (m.matches()) {
                text.append("all.add(\"").append(m.group(1).replace("\"", "'")).append("\"); all.add(").append(m.group(1));
                text.append("); all.add(").append(m.group(2)).append(");\n");
                answers++;
            } else {
                text.append(line).append('\n');
            }
        }
        text.append("    }\n}\n");
        List<Object> all = ran(text.toString());
        Due.holds("some answers", answers > 40);
        Due.is("answers", all.size(), 3 * answers);
        for (int i = 0; i + 2 < all.size(); i += 3) {
            Due.is("README.md: " + all.get(i), ((Number) all.get(i + 1)).longValue(), ((Number) all.get(i + 2)).longValue());
        }
    }

    private static List<Object> ran(String source) throws Exception {
        List<Object> all = new ArrayList<>();
        JavaCompiler compiler = ToolProvider.getSystemJavaCompiler();
        Due.holds("there is a compiler", compiler != null);
        if (compiler == null) return all;
        Path folder = Files.createTempDirectory("readme");
        Path file = folder.resolve("ReadmeExample.java");
        Path made = folder.resolve("ReadmeExample.class");
        try {
            Files.writeString(file, source);
            String path = System.getProperty("java.class.path");
            int code = compiler.run(null, null, null, "-cp", path, "-d", folder.toString(), file.toString());
            Due.is("the example is compiled", code, 0);
            if (code != 0) return all;
            try (URLClassLoader loader = new URLClassLoader(new URL[] {folder.toUri().toURL()})) {
                loader.loadClass("ReadmeExample").getMethod("answers", List.class).invoke(null, all);
            }
        } finally {
            Files.deleteIfExists(file);
            Files.deleteIfExists(made);
            Files.deleteIfExists(folder);
        }
        return all;
    }
}
