import java.io.IOException;
import java.lang.management.ManagementFactory;
import java.lang.reflect.Constructor;
import java.lang.reflect.Field;
import java.lang.reflect.Method;
import java.lang.reflect.Modifier;
import java.nio.file.Files;
import java.nio.file.Path;
import java.util.List;
import java.util.Set;
import java.util.TreeSet;
import java.util.regex.Matcher;
import java.util.regex.Pattern;
import java.util.stream.Collectors;
import java.util.stream.Stream;

/** What of ../shared/LANGUAGE.md a look at the class and its text can tell, and what calls make. */
public final class LanguageTest {
    private static final Set<String> FACE = Set.of("feed", "end", "net", "fault", "point", "line", "height", "rounded",
        "off", "sum", "rings", "ring", "closes", "worst", "check", "fall", "wanted", "blunder", "doubt", "next", "strike",
        "mend", "snoop", "read", "weigh", "add", "fix", "free", "drawn", "undo", "image", "restore", "count");
    private static int wrong = 0;

    public static void main(String[] args) throws IOException {
        face();
        faceAsTold(Files.readString(Path.of("../shared/DOC.md")));
        classesInside();
        text(Files.readString(Path.of("src/main/java/LevelRings.java")));
        calls(Calls.of("src/main/java/LevelRings.java"));
        room();
        System.out.println(wrong == 0 ? "the language is kept to" : wrong + " breaks of the language");
        if (wrong != 0) {
            System.exit(1);
        }
    }

    private static void due(String what, Object got, Object want) {
        if (!got.equals(want)) {
            wrong++;
            System.out.println(what + ": " + got + ", due is " + want);
        }
    }

    private static void face() {
        Set<String> open = new TreeSet<>();
        for (Method m : LevelRings.class.getDeclaredMethods()) {
            if (!Modifier.isPrivate(m.getModifiers())) {
                open.add(m.getName());
                due(m + " is public and of the object", m.getModifiers(), Modifier.PUBLIC);
            } else {
                due("private " + m.getName() + " bears a public name", FACE.contains(m.getName()), false);
            }
        }
        due("the methods of the face", open, new TreeSet<>(FACE));
        Set<String> fields = Stream.of(LevelRings.class.getDeclaredFields())
            .filter(f -> !Modifier.isPrivate(f.getModifiers())).map(Field::getName).collect(Collectors.toSet());
        due("the constants of the face", fields, Set.of("NONE", "HIDDEN"));
        Constructor<?>[] made = LevelRings.class.getDeclaredConstructors();
        due("constructors", made.length, 1);
        due("parameters of it", made[0].getParameterCount(), 0);
        due("the class", LevelRings.class.getModifiers(), Modifier.PUBLIC | Modifier.FINAL);
    }

    /** Each method as the document's face writes it, but for the names of its parameters. */
    private static void faceAsTold(String document) {
        Set<String> told = new TreeSet<>();
        Matcher row = Pattern.compile("public (\\w+ \\w+)\\((.*)\\)( throws \\w+)?;").matcher(document);
        while (row.find()) {
            String parameters = Stream.of(row.group(2).split(", ")).map(p -> p.split(" ")[0])
                .collect(Collectors.joining(", "));
            told.add(row.group(1) + "(" + parameters + ")" + (row.group(3) == null ? "" : row.group(3)));
        }
        Set<String> written = new TreeSet<>();
        for (Method m : LevelRings.class.getDeclaredMethods()) {
            if (Modifier.isPublic(m.getModifiers())) {
                String parameters = Stream.of(m.getParameterTypes()).map(Class::getSimpleName)
                    .collect(Collectors.joining(", "));
                String thrown = Stream.of(m.getExceptionTypes()).map(c -> " throws " + c.getSimpleName())
                    .collect(Collectors.joining());
                written.add(m.getReturnType().getSimpleName() + " " + m.getName() + "(" + parameters + ")" + thrown);
            }
        }
        due("the face", written, told);
        due("methods of the face", told.size(), FACE.size());
    }

    private static void classesInside() {
        Class<?>[] inside = LevelRings.class.getDeclaredClasses();
        due("at most twelve classes", inside.length < 12, true);
        for (Class<?> c : inside) {
            int kind = c.getModifiers();
            due(c + " is static", Modifier.isStatic(kind), true);
            due(c + " is not open", Modifier.isPublic(kind) || Modifier.isProtected(kind), false);
            for (Method m : c.getDeclaredMethods()) {
                due(m + " bears a public name", FACE.contains(m.getName()), false);
                due(m + " takes at most seven", m.getParameterCount() <= 7, true);
            }
            for (Field f : c.getDeclaredFields()) {
                boolean isStatic = Modifier.isStatic(f.getModifiers());
                due(f + " is final, if static", !isStatic || Modifier.isFinal(f.getModifiers()), true);
            }
        }
    }

    private static void text(String text) {
        due("no package", text.contains("package "), false);
        due("imports", Pattern.compile("^import .*$", Pattern.MULTILINE).matcher(text).results().map(r -> r.group())
            .collect(Collectors.toList()), List.of("import java.util.NoSuchElementException;"));
        for (String word : List.of("->", "::", "try ", "catch", "finally", "synchronized", "assert ", "static {",
            "Exact(", "System.", "Random", "Thread", "double ", "float ")) {
            due("'" + word + "' is there", text.contains(word), false);
        }
        due("all signs are plain", text.chars().allMatch(c -> c < 127), true);
        Matcher thrown = Pattern.compile("throw new (\\w+)\\(\\)").matcher(text);
        while (thrown.find()) {
            due("thrown", thrown.group(1), "NoSuchElementException");
        }
        int began = 0;
        String[] lines = text.split("\n");
        for (int i = 0; i < lines.length; i++) {
            if (lines[i].matches(" {4,8}\\S.*\\) (throws \\w+ )?\\{")) {
                began = i;
            }
            if (lines[i].matches(" {4,8}\\}")) {
                due("lines of the method that ends at " + (i + 1) + " are at most 60", i - began <= 60, true);
                began = i;
            }
        }
    }

    /** Rules 4, 8, 11, 12: what is called, how deep, and what a constructor gives away. */
    private static void calls(Calls calls) {
        Set<String> beyond = new TreeSet<>(calls.library);
        // The super class's constructor and the one exception of the face; of the library what the class needs.
        beyond.removeAll(Set.of("Object.<init>", "NoSuchElementException.<init>", "Math.min", "Math.max", "Math.abs",
            "Math.floorDiv", "Integer.bitCount", "String.length", "String.charAt"));
        due("calls of the library beyond these", beyond, Set.of());
        due("the methods of the face are seen", calls.within.keySet().containsAll(FACE.stream()
            .map(name -> "LevelRings." + name).collect(Collectors.toList())), true);
        for (String name : calls.within.keySet()) {
            // Eight deep, the caller's own method among them.
            due(name + " goes at most seven deep", calls.depth(name) <= 7, true);
        }
        due("what constructors hand out", calls.handedOut, Set.of());
        calls.fields.forEach((name, fields) -> due(name + " has at most twenty fields", fields <= 20, true));
    }

    /** A call makes nothing, but for the exception that it throws: the rows stand since the constructor. */
    private static void room() {
        com.sun.management.ThreadMXBean bean =
            (com.sun.management.ThreadMXBean) ManagementFactory.getThreadMXBean();
        long least = Long.MAX_VALUE;
        // The machine may make something of its own in the first rounds; the least of them counts.
        for (int i = 0; i < 20; i++) {
            LevelRings x = new LevelRings();
            long start = bean.getCurrentThreadAllocatedBytes();
            long ahead = bean.getCurrentThreadAllocatedBytes();
            many(x);
            long behind = bean.getCurrentThreadAllocatedBytes();
            least = Math.min(least, behind - ahead - (ahead - start));
        }
        due("bytes that calls made", least, 0L);
    }

    private static void many(LevelRings x) {
        x.feed(0x706f696e, 0x7420613b, 0x706f696e, 0x7420623b, 0x706f696e);
        x.feed(0x7420633b, 0x20202020, 0x20202020, 0x20202020, 0x20202020);
        x.net();
        for (int l = 0; l < 11; l++) {
            x.add(l % 3, (l + 1) % 3, l, l % 4 + 1);
            x.fall(l, 0);
            x.check(l, 0);
            x.ring(l);
        }
        x.wanted(0, 0);
        x.worst();
        x.blunder();
        x.next(0);
        x.doubt(0, 1, 0);
        x.image(0);
        x.drawn(60, 1);
        x.snoop(0);
        x.undo();
        x.restore(0);
        x.sum(0);
        x.count(4);
    }
}
