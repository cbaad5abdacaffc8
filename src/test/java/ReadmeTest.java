import java.io.IOException;
import java.lang.reflect.Method;
import java.lang.reflect.Modifier;
import java.nio.file.Files;
import java.nio.file.Path;
import java.util.ArrayList;
import java.util.Comparator;
import java.util.List;
import java.util.TreeSet;
import java.util.regex.Matcher;
import java.util.regex.Pattern;
import java.util.stream.Stream;

/** What README.md shows is run as it stands there, and what it names is what there is. */
public final class ReadmeTest {
    private static final Path README = Path.of("README.md");
    private static final Path DOCUMENT = Path.of("../shared/DOC.md");
    private static final Path TESTS = Path.of("src/test/java");
    private static final int PROMISES = 54;
    private static final Checks CHECKS = new Checks();

    public static void main(String[] args) throws IOException, InterruptedException {
        String page = Files.readString(README);
        String document = Files.readString(DOCUMENT);
        theProgramShown(page);
        theTestAlone(page);
        theScript(page);
        callsInGroups(page, document);
        allTestsAndNoOthers(page);
        promisesOfTests(page);
        otherFilesNamed(page);
        CHECKS.end("ReadmeTest");
    }

    /** The texts between ``` and ```, of one kind, in their order. */
    private static List<String> blocks(String page, String kind) {
        List<String> blocks = new ArrayList<>();
        Matcher block = Pattern.compile("```" + kind + "\n(.*?)```", Pattern.DOTALL).matcher(page);
        while (block.find()) {
            blocks.add(block.group(1));
        }
        return blocks;
    }

    /** The cells of the rows of the table that begins with these headings. */
    private static List<String[]> rows(String page, String headings) {
        List<String[]> rows = new ArrayList<>();
        int start = page.indexOf(headings);
        CHECKS.due("the table " + headings, start >= 0, true);
        String[] lines = page.substring(Math.max(0, start)).split("\n");
        for (int i = 2; i < lines.length && lines[i].startsWith("|"); i++) {
            String[] cells = lines[i].substring(1, lines[i].length() - 1).split("\\|");
            rows.add(new String[] {cells[0].strip(), cells[1].strip()});
        }
        return rows;
    }

    /** The names between ` and `, but for those inside the blocks. */
    private static List<String> names(String text) {
        List<String> names = new ArrayList<>();
        Matcher name = Pattern.compile("`([^`]+)`").matcher(text.replaceAll("(?s)```.*?```", ""));
        while (name.find()) {
            names.add(name.group(1));
        }
        return names;
    }

    private static void theProgramShown(String page) throws IOException, InterruptedException {
        String program = blocks(page, "java").get(0);
        Matcher name = Pattern.compile("public final class (\\w+)").matcher(program);
        CHECKS.due("the program has a name", name.find(), true);
        String file = name.group(1) + ".java";
        CHECKS.due("the page names its file", names(page).contains(file), true);
        CHECKS.due("the page names no other program", blocks(page, "java").size(), 1);
        Path place = projectCopied();
        Files.writeString(place.resolve(file), program);
        CHECKS.due("it prints", run(place, blocks(page, "sh").get(0)), "0\n" + blocks(page, "text").get(0));
        delete(place);
    }

    private static void theTestAlone(String page) throws IOException, InterruptedException {
        String commands = blocks(page, "sh").get(1);
        Path place = projectCopied();
        String printed = run(place, commands);
        CHECKS.due("the test alone ends with 0", printed.startsWith("0\n"), true);
        CHECKS.due("the test alone reports", printed.endsWith("answers as due, 0 not\n"), true);
        delete(place);
    }

    /** A directory with the class and the tests where the commands look for them. */
    private static Path projectCopied() throws IOException {
        Path place = Files.createTempDirectory("readme");
        for (String directory : new String[] {"src/main/java", "src/test/java"}) {
            Files.createDirectories(place.resolve(directory));
            try (Stream<Path> files = Files.list(Path.of(directory))) {
                for (Path file : files.toList()) {
                    Files.copy(file, place.resolve(directory).resolve(file.getFileName()));
                }
            }
        }
        return place;
    }

    /** The exit code, and behind it what is printed. */
    private static String run(Path place, String commands) throws IOException, InterruptedException {
        Process process = new ProcessBuilder("sh", "-e", "-c", commands).directory(place.toFile())
                .redirectError(ProcessBuilder.Redirect.INHERIT).start();
        String printed = new String(process.getInputStream().readAllBytes());
        return process.waitFor() + "\n" + printed;
    }

    private static void delete(Path place) throws IOException {
        try (Stream<Path> files = Files.walk(place)) {
            for (Path file : files.sorted(Comparator.reverseOrder()).toList()) {
                Files.delete(file);
            }
        }
    }

    private static void theScript(String page) {
        CHECKS.due("the script is named", names(page).contains(".ci/run"), true);
        CHECKS.due("the script can be run", Files.isExecutable(Path.of(".ci/run")), true);
    }

    /** "Ahead of the calls .. the interface says: ---- .." */
    private static void callsInGroups(String page, String document) {
        List<String> want = new ArrayList<>();
        Matcher group = Pattern.compile("Ahead of the calls (.*) the interface says: ---- (.*)\\.\n").matcher(document);
        while (group.find()) {
            want.add(group.group(2) + " " + names(group.group(1)));
        }
        List<String> got = new ArrayList<>();
        TreeSet<String> calls = new TreeSet<>();
        for (String[] row : rows(page, "| group | calls |")) {
            got.add(row[0] + " " + names(row[1]));
            calls.addAll(names(row[1]));
        }
        CHECKS.due("groups", got, want);
        TreeSet<String> face = new TreeSet<>();
        for (Method method : CourierClash.class.getDeclaredMethods()) {
            if (Modifier.isPublic(method.getModifiers())) {
                face.add(method.getName());
            }
        }
        CHECKS.due("all calls", calls, face);
        CHECKS.due("as many as promises, but for the constructor", calls.size(), PROMISES - 1);
    }

    private static void allTestsAndNoOthers(String page) throws IOException {
        TreeSet<String> named = new TreeSet<>();
        for (String[] row : rows(page, "| test | what it tests |")) {
            CHECKS.due("one row for " + row[0], named.add(row[0]), true);
        }
        TreeSet<String> there = new TreeSet<>();
        try (Stream<Path> files = Files.list(TESTS)) {
            for (Path file : files.toList()) {
                String name = file.getFileName().toString();
                if (name.endsWith("Test.java")) {
                    there.add("`" + name.replace(".java", "") + "`");
                }
            }
        }
        CHECKS.due("tests", named, there);
    }

    /** A row that tells promises by number: the test has a check that bears the number of each, and all are told. */
    private static void promisesOfTests(String page) throws IOException {
        TreeSet<Integer> all = new TreeSet<>();
        for (String[] row : rows(page, "| test | what it tests |")) {
            Matcher numbers = Pattern.compile("^promises? ([0-9][0-9, to]*):").matcher(row[1]);
            if (numbers.find()) {
                String file = names(row[0]).get(0) + ".java";
                String source = Files.readString(TESTS.resolve(file));
                for (int promise : promises(numbers.group(1))) {
                    CHECKS.due(file + " tests the promise " + promise, source.contains("\"" + promise + " "), true);
                    all.add(promise);
                }
            }
        }
        CHECKS.due("each promise is told", all, promises("1 to " + PROMISES));
    }

    private static TreeSet<Integer> promises(String told) {
        TreeSet<Integer> promises = new TreeSet<>();
        for (String part : told.split(", ")) {
            String[] ends = part.split(" to ");
            for (int n = Integer.parseInt(ends[0]); n <= Integer.parseInt(ends[ends.length - 1]); n++) {
                promises.add(n);
            }
        }
        return promises;
    }

    private static void otherFilesNamed(String page) {
        for (String name : names(page)) {
            if (name.contains("/") && !name.contains("*")) {
                CHECKS.due(name + " is there", Files.exists(Path.of(name)), true);
            }
        }
        for (String name : new String[] {"Checks", "PlainClash"}) {
            CHECKS.due(name + " is named", names(page).contains(name), true);
            CHECKS.due(name + " is there", Files.exists(TESTS.resolve(name + ".java")), true);
        }
    }
}
