import java.io.IOException;
import java.io.PrintWriter;
import java.io.StringWriter;
import java.lang.management.ManagementFactory;
import java.lang.reflect.Constructor;
import java.lang.reflect.Executable;
import java.lang.reflect.Field;
import java.lang.reflect.Method;
import java.lang.reflect.Modifier;
import java.nio.charset.StandardCharsets;
import java.nio.file.Files;
import java.nio.file.Path;
import java.util.ArrayList;
import java.util.List;
import java.util.TreeMap;
import java.util.TreeSet;
import java.util.regex.Matcher;
import java.util.regex.Pattern;
import java.util.spi.ToolProvider;

/** The face as the document tells it, and those rules of LANGUAGE.md that can be looked for. */
public final class LanguageTest {
    private static final Path SOURCE = Path.of("src/main/java/CourierClash.java");
    private static final Path DOCUMENT = Path.of("../shared/DOC.md");
    private static final Checks CHECKS = new Checks();

    public static void main(String[] args) throws IOException {
        faceAsInTheDocument();
        groupsAsInTheDocument();
        nothingElseCanBeSeen();
        noPrivateNameOfThePublic();
        staticFieldsAreConstants();
        sizes();
        source();
        callsNoneOfWhichIsARecursion();
        callsMakeNoObjects();
        CHECKS.end("LanguageTest");
    }

    private static void faceAsInTheDocument() throws IOException {
        String document = Files.readString(DOCUMENT);
        String block = document.substring(document.indexOf("```java") + 7);
        TreeSet<String> want = new TreeSet<>();
        for (String line : block.substring(0, block.indexOf("```")).split("\n")) {
            String call = line.strip();
            if (call.startsWith("public ") && call.endsWith(";")) {
                want.add(call.replaceAll("(int|boolean) \\w+(?=[,)])", "$1"));
            }
        }
        TreeSet<String> got = new TreeSet<>();
        for (Constructor<?> made : CourierClash.class.getConstructors()) {
            got.add("public CourierClash(" + parameters(made) + ")" + exceptions(made) + ";");
        }
        for (Method method : CourierClash.class.getDeclaredMethods()) {
            if (Modifier.isPublic(method.getModifiers())) {
                got.add("public " + method.getReturnType() + " " + method.getName() + "(" + parameters(method) + ")"
                        + exceptions(method) + ";");
            }
        }
        CHECKS.due("rule 1, the face", got, want);
        CHECKS.due("rule 1, 54 promises", got.size(), 54);
        CHECKS.due("rule 1, final", Modifier.toString(CourierClash.class.getModifiers()), "public final");
    }

    /** "Ahead of the calls .. the interface says: ---- ..": the same comments, with the same calls behind them. */
    private static void groupsAsInTheDocument() throws IOException {
        List<String> want = new ArrayList<>();
        Matcher group = Pattern.compile("Ahead of the calls (.*) the interface says: (----.*)\\.\n")
                .matcher(Files.readString(DOCUMENT));
        while (group.find()) {
            want.add(group.group(2) + " " + group.group(1).replace("`", "").replace(",", ""));
        }
        CHECKS.due("groups are told", want.isEmpty(), false);
        List<String> got = new ArrayList<>();
        Matcher line = Pattern.compile("// (----.*)|\\bpublic \\w+ (\\w+)\\(").matcher(Files.readString(SOURCE));
        while (line.find()) {
            int latest = got.size() - 1;
            if (line.group(1) != null) {
                got.add(line.group(1));
            } else if (latest >= 0) {
                got.set(latest, got.get(latest) + " " + line.group(2));
            }
        }
        CHECKS.due("the interface says", got.subList(0, Math.min(got.size(), want.size())), want);
        for (String behind : got.subList(Math.min(got.size(), want.size()), got.size())) {
            CHECKS.due("no calls behind: " + behind, behind.equals("---- what the calls above share"), true);
        }
    }

    private static String parameters(Executable call) {
        List<String> names = new ArrayList<>();
        for (Class<?> type : call.getParameterTypes()) {
            names.add(type.getName());
        }
        return String.join(", ", names);
    }

    private static String exceptions(Executable call) {
        List<String> names = new ArrayList<>();
        for (Class<?> type : call.getExceptionTypes()) {
            names.add(type.getSimpleName());
        }
        return names.isEmpty() ? "" : " throws " + String.join(", ", names);
    }

    private static void nothingElseCanBeSeen() {
        for (Method method : CourierClash.class.getDeclaredMethods()) {
            int modifiers = method.getModifiers();
            CHECKS.due("rule 1 " + method, Modifier.isPublic(modifiers) || Modifier.isPrivate(modifiers), true);
            CHECKS.due("rule 2 " + method, method.isSynthetic(), false);
        }
        for (Field field : CourierClash.class.getDeclaredFields()) {
            CHECKS.due("rule 1 " + field, Modifier.isPrivate(field.getModifiers()), true);
        }
        for (Class<?> inside : CourierClash.class.getDeclaredClasses()) {
            CHECKS.due("rule 1 " + inside, Modifier.isStatic(inside.getModifiers()), true);
            CHECKS.due("rule 1 seen " + inside, Modifier.isPublic(inside.getModifiers()), false);
        }
    }

    private static void noPrivateNameOfThePublic() {
        TreeSet<String> names = new TreeSet<>();
        for (Method method : CourierClash.class.getMethods()) {
            names.add(method.getName());
        }
        for (Class<?> type : all()) {
            for (Method method : type.getDeclaredMethods()) {
                boolean hidden = type != CourierClash.class || Modifier.isPrivate(method.getModifiers());
                CHECKS.due("rule 1 name " + method, hidden && names.contains(method.getName()), false);
            }
        }
    }

    private static void staticFieldsAreConstants() {
        for (Class<?> type : all()) {
            for (Field field : type.getDeclaredFields()) {
                boolean isStatic = Modifier.isStatic(field.getModifiers());
                boolean constant = Modifier.isFinal(field.getModifiers()) && field.getType() == int.class;
                CHECKS.due("rule 5 " + field, !isStatic || constant, true);
            }
        }
    }

    private static List<Class<?>> all() {
        List<Class<?>> all = new ArrayList<>(List.of(CourierClash.class.getDeclaredClasses()));
        all.add(CourierClash.class);
        return all;
    }

    private static void sizes() {
        CHECKS.due("rule 11 classes", all().size() <= 12, true);
        for (Class<?> type : all()) {
            int fields = 0;
            for (Field field : type.getDeclaredFields()) {
                fields += Modifier.isStatic(field.getModifiers()) ? 0 : 1;
            }
            CHECKS.due("rule 11 fields of " + type, fields <= 20, true);
            for (Method method : type.getDeclaredMethods()) {
                CHECKS.due("rule 11 parameters of " + method, method.getParameterCount() <= 7, true);
            }
        }
    }

    private static void source() throws IOException {
        String text = Files.readString(SOURCE, StandardCharsets.ISO_8859_1);
        CHECKS.due("rule 4 signs", text.chars().allMatch(sign -> sign == '\n' || sign >= 32 && sign <= 126), true);
        String code = text.replaceAll("(?s)/\\*.*?\\*/", "").replaceAll("//[^\n]*", "").replaceAll("\"[^\"\n]*\"", "TEXT");
        String[] banned = {
            "\\bimport\\b", "\\bpackage\\b", "->", "::", "\\bsynchronized\\b", "\\bassert\\b", "\\bfinally\\b",
            "\\bcatch\\b", "\\btry\\b", "\\bprotected\\b", "\\bvolatile\\b", "\\bnative\\b", "\\bFloat\\b",
            "\\bDouble\\b", "\\bThread\\b", "\\bRandom\\b", "\\bhashCode\\b", "\\bequals\\b", "\\btoString\\b",
            "\\bMath\\b", "\\bclone\\b", "Exact\\b", "System\\.(?!arraycopy\\b)", "static \\{", "TEXT\\s*\\+",
            "\\+\\s*TEXT", "\\bwhile \\(true", "for \\(;;",
        };
        for (String pattern : banned) {
            Matcher found = Pattern.compile(pattern).matcher(code);
            CHECKS.due("rules 2 to 13, " + pattern, found.find() ? found.start() : -1, -1);
        }
        Matcher thrown = Pattern.compile("throw new (\\w+)\\(TEXT\\);").matcher(code);
        int plainThrows = 0;
        while (thrown.find()) {
            plainThrows++;
        }
        CHECKS.due("rule 6 throws", plainThrows, code.split("\\bthrow\\b", -1).length - 1);
        shortMethods(code.split("\n"));
    }

    private static void shortMethods(String[] lines) {
        int longest = 0;
        int start = -1;
        String end = "";
        for (int i = 0; i < lines.length; i++) {
            String line = lines[i];
            if (start < 0 && line.matches("( {4}| {8})\\w.*\\) .*\\{|( {4}| {8})\\w.*\\) \\{")) {
                start = i;
                end = line.substring(0, line.length() - line.stripLeading().length()) + "}";
            } else if (start >= 0 && line.equals(end)) {
                longest = Math.max(longest, i - start + 1);
                start = -1;
            }
        }
        CHECKS.due("rule 11 methods were found", longest > 10, true);
        CHECKS.due("rule 11 longest method of " + longest + " lines", longest <= 60, true);
    }

    /** Rule 8 and 11, by what javap tells of the compiled class: no way of calls comes back, and none is too deep. */
    private static void callsNoneOfWhichIsARecursion() {
        TreeMap<String, TreeSet<String>> calls = new TreeMap<>();
        for (Class<?> type : all()) {
            calls.putAll(callsOf(type));
        }
        CHECKS.due("rule 11 methods were found", calls.size() > 100, true);
        int deepest = 0;
        for (String method : calls.keySet()) {
            deepest = Math.max(deepest, depth(method, calls, 0));
        }
        CHECKS.due("rule 11, " + deepest + " deep", deepest <= 8, true);
        CHECKS.due("rule 11 calls were found", deepest > 4, true);
    }

    private static TreeMap<String, TreeSet<String>> callsOf(Class<?> type) {
        StringWriter told = new StringWriter();
        PrintWriter out = new PrintWriter(told);
        String place = System.getProperty("java.class.path");
        ToolProvider.findFirst("javap").orElseThrow().run(out, out, "-p", "-c", "-cp", place, type.getName());
        TreeMap<String, TreeSet<String>> calls = new TreeMap<>();
        String method = "";
        for (String line : told.toString().split("\n")) {
            Matcher head = Pattern.compile("^  .*?([\\w$]+)\\(([^)]*)\\).*;$").matcher(line);
            if (head.find()) {
                boolean made = head.group(1).equals(type.getName());
                method = type.getName() + "." + (made ? "\"<init>\"" : head.group(1));
                CHECKS.due("one of this name: " + method, calls.put(method, new TreeSet<>()) == null, true);
            }
            Matcher called = Pattern.compile("// Method (?:([\\w$]+)\\.)?([\\w\"<>]+):").matcher(line);
            if (called.find()) {
                calls.get(method).add((called.group(1) == null ? type.getName() : called.group(1)) + "." + called.group(2));
            }
        }
        return calls;
    }

    /** How many of the program's own methods stand open at once behind this one, itself among them. */
    private static int depth(String method, TreeMap<String, TreeSet<String>> calls, int above) {
        if (above > 50) {
            return above;
        }
        int deepest = 0;
        for (String called : calls.get(method)) {
            if (calls.containsKey(called)) {
                deepest = Math.max(deepest, depth(called, calls, above + 1));
            }
        }
        return deepest + 1;
    }

    /** All calls of one run live in one room, so the rows are made by the constructor, and no call makes more. */
    private static void callsMakeNoObjects() {
        com.sun.management.ThreadMXBean meter =
                (com.sun.management.ThreadMXBean) ManagementFactory.getThreadMXBean();
        CourierClash game = new CourierClash();
        busy(game, 3);
        long thread = Thread.currentThread().getId();
        long before = meter.getThreadAllocatedBytes(thread);
        busy(game, 100);
        long bytes = meter.getThreadAllocatedBytes(thread) - before;
        CHECKS.due("rule 12, " + bytes + " bytes for 100 rounds of calls", bytes < 8192, true);
    }

    private static void busy(CourierClash game, int rounds) {
        for (int round = 0; round < rounds; round++) {
            if (game.streets() == 0) {
                game.addStreet(0, 9, false);
                game.addStreet(9, 0, true);
                game.addParcel(9, 0, 2, 3);
                game.addParcel(0, 9, 2, 3);
            }
            game.keep();
            game.order(0, 0);
            game.bestParcel(0);
            game.nextStreet(0, 9);
            game.turn();
            game.digest();
            game.toggleVan(1);
            game.place(3, 5);
            game.setCapacity(6);
            game.append('r');
            game.append(';');
            game.append('t');
            game.append('1');
            game.firstError();
            game.play();
            game.restore();
            game.undo();
            game.restore();
        }
    }
}
