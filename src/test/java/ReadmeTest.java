import java.io.ByteArrayOutputStream;
import java.io.File;
import java.io.IOException;
import java.io.PrintStream;
import java.lang.reflect.Method;
import java.lang.reflect.Modifier;
import java.net.URL;
import java.net.URLClassLoader;
import java.nio.charset.StandardCharsets;
import java.nio.file.Files;
import java.nio.file.Path;
import java.util.Comparator;
import java.util.List;
import java.util.regex.Matcher;
import java.util.regex.Pattern;
import java.util.stream.Collectors;
import java.util.stream.Stream;
import javax.tools.ToolProvider;

/** README.md tells how to use the class: its program runs and prints what stands there, no call is left out. */
public final class ReadmeTest extends Due {
    public static void main(String[] args) throws Exception {
        where = "README.md";
        String page = Files.readString(Path.of("README.md"));
        program(page);
        callsNamed(page);
        testsNamed(page);
        finish("README.md holds");
    }

    private static void program(String page) throws Exception {
        Matcher block = Pattern.compile("```java\n(.*?)```.*?prints:\n\n```text\n(.*?)```", Pattern.DOTALL).matcher(page);
        if (!block.find()) {
            isWrong("has no program with what it prints");
            return;
        }
        String printed = printedBy(block.group(1));
        if (!printed.equals(block.group(2))) {
            isWrong("the program prints\n" + printed);
        }
    }

    private static String printedBy(String program) throws Exception {
        Path place = Files.createTempDirectory("readme");
        try {
            Path file = Files.writeString(place.resolve("Example.java"), program);
            int failed = ToolProvider.getSystemJavaCompiler().run(null, null, null, "-encoding", "UTF-8",
                "-cp", System.getProperty("java.class.path"), "-d", place.toString(), file.toString());
            return failed == 0 ? run(place) : "nothing: it does not compile";
        } finally {
            remove(place);
        }
    }

    private static String run(Path place) throws Exception {
        PrintStream usual = System.out;
        ByteArrayOutputStream bytes = new ByteArrayOutputStream();
        try (URLClassLoader classes = new URLClassLoader(new URL[] {place.toUri().toURL()});
            PrintStream caught = new PrintStream(bytes, true, StandardCharsets.UTF_8)) {
            Method main = classes.loadClass("Example").getMethod("main", String[].class);
            System.setOut(caught);
            main.invoke(null, (Object) new String[0]);
        } finally {
            System.setOut(usual);
        }
        return bytes.toString(StandardCharsets.UTF_8).replace(System.lineSeparator(), "\n");
    }

    private static void remove(Path place) throws IOException {
        try (Stream<Path> all = Files.walk(place)) {
            all.sorted(Comparator.reverseOrder()).map(Path::toFile).forEach(File::delete);
        }
    }

    /** Each call of the document's face stands in the table, with its parameters as the document names them. */
    private static void callsNamed(String page) throws IOException {
        String document = Files.readString(Path.of("../shared/DOC.md"));
        Matcher row = Pattern.compile("public \\w+ (\\w+)\\((.*)\\)( throws \\w+)?;").matcher(document);
        int calls = 0;
        while (row.find()) {
            String parameters = Stream.of(row.group(2).split(", ")).map(p -> p.replaceFirst("^\\w+ ", ""))
                .collect(Collectors.joining(", "));
            String call = "`" + row.group(1) + "(" + parameters + ")`";
            if (page.lines().noneMatch(l -> l.startsWith("| `") && l.contains(call))) {
                isWrong("has no row for " + call);
            }
            calls++;
        }
        due("calls of the face", calls, Stream.of(LevelRings.class.getDeclaredMethods())
            .filter(m -> Modifier.isPublic(m.getModifiers())).count());
    }

    private static void testsNamed(String page) throws IOException {
        try (Stream<Path> files = Files.list(Path.of("src/test/java"))) {
            List<String> tests = files.map(f -> f.getFileName().toString()).filter(f -> f.endsWith("Test.java"))
                .collect(Collectors.toList());
            for (String test : tests) {
                if (!page.contains("src/test/java/" + test)) {
                    isWrong("does not name " + test);
                }
            }
        }
    }
}
