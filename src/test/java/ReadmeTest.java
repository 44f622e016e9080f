import java.io.IOException;
import java.lang.reflect.Method;
import java.lang.reflect.Modifier;
import java.nio.file.Files;
import java.nio.file.Path;
import java.util.ArrayList;
import java.util.Comparator;
import java.util.List;
import java.util.TreeMap;
import java.util.TreeSet;
import java.util.regex.Matcher;
import java.util.regex.Pattern;
import java.util.stream.Stream;

/** What README.md tells to do is done word for word, in a copy of the project. */
public final class ReadmeTest {
    private static final Path TESTS = Path.of("src/test/java");
    private static int wrong = 0;

    private static void must(boolean holds, String what) {
        if (!holds) {
            wrong++;
            System.out.println("not so: " + what);
        }
    }

    /** What stands between fences of that kind. */
    private static List<String> blocks(String page, String kind) {
        List<String> list = new ArrayList<>();
        Matcher m = Pattern.compile("(?s)\n```" + kind + "\n(.*?)```\n").matcher(page);
        while (m.find()) {
            list.add(m.group(1));
        }
        return list;
    }

    private static List<Path> below(Path folder) throws IOException {
        try (Stream<Path> all = Files.walk(folder)) {
            return all.sorted(Comparator.reverseOrder()).toList();
        }
    }

    private static Path copyOfProject() throws IOException {
        Path copy = Files.createTempDirectory("readme");
        for (Path file : below(Path.of("src"))) {
            if (Files.isRegularFile(file)) {
                Files.createDirectories(copy.resolve(file).getParent());
                Files.copy(file, copy.resolve(file));
            }
        }
        return copy;
    }

    /** What the commands print; each of them must end well. */
    private static String done(Path folder, String commands) throws IOException, InterruptedException {
        Process p = new ProcessBuilder("sh", "-e", "-c", commands)
                .directory(folder.toFile()).redirectErrorStream(true).start();
        String printed = new String(p.getInputStream().readAllBytes());
        must(p.waitFor() == 0, "ends well: " + commands + printed);
        return printed;
    }

    private static void commands(String page) throws IOException, InterruptedException {
        List<String> programs = blocks(page, "java"), shell = blocks(page, "sh"), texts = blocks(page, "text");
        must(programs.size() == 1 && shell.size() == 3 && texts.size() == 1, "one program, one text, three commands");
        if (wrong > 0) {
            return;
        }
        Path copy = copyOfProject();
        try {
            Files.writeString(copy.resolve("Example.java"), programs.get(0));
            String printed = done(copy, shell.get(0));
            must(printed.equals(texts.get(0)), "the example prints what the page says, not " + printed);
            // this test is a part of .ci/run, so it cannot run it
            must(shell.get(1).equals(".ci/run\n") && Files.exists(Path.of(".ci/run")), ".ci/run is there");
            done(copy, shell.get(2));
        } finally {
            for (Path file : below(copy)) {
                Files.delete(file);
            }
        }
    }

    /** Calls of the table, by name, with how many arguments each takes. */
    private static TreeMap<String, Integer> callsOf(String page) {
        TreeMap<String, Integer> calls = new TreeMap<>();
        for (String line : page.split("\n")) {
            Matcher m = Pattern.compile("`(\\w+)\\(([\\w, ]*)\\)`").matcher(line);
            while (line.startsWith("| ") && m.find()) {
                calls.put(m.group(1), m.group(2).isEmpty() ? 0 : m.group(2).split(", ").length);
            }
        }
        return calls;
    }

    private static void calls(String page) {
        TreeMap<String, Integer> face = new TreeMap<>();
        for (Method m : TankNumbers.class.getDeclaredMethods()) {
            if (Modifier.isPublic(m.getModifiers())) {
                face.put(m.getName(), m.getParameterCount());
            }
        }
        must(callsOf(page).equals(face), "the table has the calls " + face + ", not " + callsOf(page));
        must(page.contains("`BAD` (" + TankNumbers.BAD + "; `book` -10), `NO` (" + TankNumbers.NO + ") or `FULL` ("
                + TankNumbers.FULL + ")") && page.contains("`NONE` (" + TankNumbers.NONE + ")"), "the constants");
    }

    private static void tests(String page) throws IOException {
        TreeSet<String> there = new TreeSet<>(), named = new TreeSet<>();
        StringBuilder all = new StringBuilder();
        for (Path file : below(TESTS)) {
            String name = file.getFileName().toString();
            if (name.endsWith(".java")) {
                all.append(Files.readString(file));
            }
            if (name.endsWith("Test.java")) {
                there.add(name.replace(".java", ""));
            }
        }
        Matcher m = Pattern.compile("`(\\w+Test)`").matcher(page);
        while (m.find()) {
            named.add(m.group(1));
        }
        must(named.equals(there), "the tests " + there + " are named, not " + named);
        m = Pattern.compile("`(promise\\w+)`").matcher(page);
        while (m.find()) {
            must(all.indexOf("static void " + m.group(1) + "()") >= 0, "there is a test " + m.group(1));
        }
        for (String helper : List.of("Bench", "Model")) {
            must(page.contains("`" + helper + "`") && all.indexOf("final class " + helper) >= 0, helper + " is there");
        }
    }

    public static void main(String[] args) throws IOException, InterruptedException {
        String page = Files.readString(Path.of("README.md"));
        commands(page);
        calls(page);
        tests(page);
        System.out.println(wrong == 0 ? "the page holds" : wrong + " rows do not hold");
        if (wrong != 0) {
            System.exit(1);
        }
    }
}
