import java.io.IOException;
import java.io.UncheckedIOException;
import java.lang.reflect.Method;
import java.nio.charset.StandardCharsets;
import java.nio.file.Files;
import java.nio.file.Path;
import java.util.ArrayList;
import java.util.Arrays;
import java.util.Collections;
import java.util.Comparator;
import java.util.List;
import java.util.regex.Matcher;
import java.util.regex.Pattern;
import java.util.stream.Collectors;
import java.util.stream.Stream;

/** What README.md says: its programs and commands are run, its tables are compared with what is there. */
public final class ReadmeTest {
    private static final Pattern BLOCK = Pattern.compile("(?s)```(java|sh|text)\\n(.*?)```");
    private static final Pattern NAME = Pattern.compile("public final class (\\w+)");
    private static final Pattern QUOTED = Pattern.compile("`(\\w+)`");
    /** A number that no call takes: what may be below 0 goes down to -99. */
    private static final long WRONG = -5000;

    private ReadmeTest() {
    }

    public static void main(String[] args) throws IOException, InterruptedException {
        String page = Files.readString(Path.of("README.md"));
        Path home = Files.createTempDirectory("readme");
        try {
            blocks(page, home);
        } finally {
            remove(home);
        }
        refusals(page);
        answersBelowZero();
        testsTold(page);
        Check.isTrue(".ci/run can be run", page.contains("bash .ci/run") && Files.isExecutable(Path.of(".ci/run")));
        Check.end();
    }

    // ---- programs and commands

    /** Each program and command is run in a folder that looks like this one; a text behind it is what it prints. */
    private static void blocks(String page, Path home) throws IOException, InterruptedException {
        Path folder = Files.createDirectory(home.resolve("main"));
        Files.createSymbolicLink(folder.resolve("src"), Path.of("src").toAbsolutePath());
        Files.createSymbolicLink(home.resolve("shared"), Path.of("../shared").toAbsolutePath());
        Matcher block = BLOCK.matcher(page);
        String printed = "";
        int programs = 0;
        int texts = 0;
        while (block.find()) {
            String text = block.group(2);
            if (block.group(1).equals("text")) {
                Check.isTrue("what was printed, " + printed + ", is what README.md tells: " + text, printed.equals(text));
                texts++;
            } else if (block.group(1).equals("sh")) {
                printed = run(folder, text);
            } else {
                printed = runProgram(folder, text);
                programs++;
            }
        }
        Check.isTrue("there are programs, each with what it prints", programs >= 4 && texts == programs);
    }

    private static String runProgram(Path folder, String text) throws IOException, InterruptedException {
        Matcher name = NAME.matcher(text);
        if (!name.find()) {
            Check.isTrue("a program has a class: " + text, false);
            return "";
        }
        Files.writeString(folder.resolve(name.group(1) + ".java"), text);
        return run(folder, "out=$(mktemp -d)\njavac -d \"$out\" src/main/java/ThrowHook.java " + name.group(1) + ".java\n"
                + "java -cp \"$out\" " + name.group(1) + "\n");
    }

    private static String run(Path folder, String commands) throws IOException, InterruptedException {
        ProcessBuilder shell = new ProcessBuilder("bash", "-e", "-c", commands);
        shell.directory(folder.toFile()).redirectErrorStream(true);
        shell.environment().put("TMPDIR", folder.toString());
        Process process = shell.start();
        process.getOutputStream().close();
        String printed = new String(process.getInputStream().readAllBytes(), StandardCharsets.UTF_8);
        Check.isTrue("it ends with 0: " + commands + printed, process.waitFor() == 0);
        return printed;
    }

    private static void remove(Path folder) throws IOException {
        try (Stream<Path> all = Files.walk(folder)) {
            all.sorted(Comparator.reverseOrder()).forEach(ReadmeTest::delete);
        }
    }

    private static void delete(Path path) {
        try {
            Files.delete(path);
        } catch (IOException e) {
            throw new UncheckedIOException(e);
        }
    }

    // ---- tables

    /** The cells of each row below a head that begins with these words. */
    private static List<String[]> rows(String page, String head) {
        List<String[]> found = new ArrayList<>();
        boolean isTable = false;
        for (String line : page.split("\n")) {
            if (line.startsWith(head)) {
                isTable = true;
            } else if (isTable && !line.startsWith("|")) {
                break;
            } else if (isTable && !line.startsWith("|--")) {
                found.add(Arrays.stream(line.substring(1).split("\\|", -1)).map(String::trim).toArray(String[]::new));
            }
        }
        return found;
    }

    private static void refusals(String page) {
        List<String> calls = new ArrayList<>();
        for (String[] row : rows(page, "| calls | BAD | NO | FULL |")) {
            Matcher call = QUOTED.matcher(row[0]);
            while (call.find()) {
                calls.add(call.group(1));
                for (int status = Run.AS_BAD; status <= Run.AS_FULL; status++) {
                    refusal(call.group(1), row[1 + status], status);
                }
            }
        }
        List<String> all = new ArrayList<>(Arrays.asList(Model.CALLS));
        Collections.sort(calls);
        Collections.sort(all);
        Check.isTrue("every call is told once, not " + calls, calls.equals(all));
    }

    private static void refusal(String name, String told, int status) {
        Run run = status == Run.AS_FULL ? Run.full() : Run.barren();
        String call = status == Run.AS_BAD ? wrong(name) : status == Run.AS_NO ? unanswered(run, name) : onceMore(name);
        boolean isRefused = !call.isEmpty();
        Check.isTrue(name + " may be refused as " + status + ", if README.md tells an answer", isRefused == !told.isEmpty());
        if (isRefused && !told.isEmpty()) {
            run.refused(call, Long.parseLong(told), status);
        }
    }

    /** A call with numbers that are not as told; empty where none can be wrong. */
    private static String wrong(String name) {
        for (Method method : ThrowHook.class.getMethods()) {
            if (method.getName().equals(name) && method.getDeclaringClass() == ThrowHook.class) {
                return method.getParameterCount() == 0 ? "" : name + Arrays.stream(method.getParameterTypes())
                        .map(type -> type == boolean.class ? "false" : "" + WRONG).collect(Collectors.joining(", ", "(", ")"));
            }
        }
        return "";
    }

    /** A call to which there is nothing to answer. */
    private static String unanswered(Run run, String name) {
        switch (name) {
            case "odds": return "odds(0)";
            case "parts": return "parts()";
            case "pairs": return "pairs()";
            case "span": return "span(1, 0)";
            case "land": return "land(3)";
            case "which": return "which(-1, 0)";
            case "hands":
                run.does("thorn(1, 0, 1, 1)");
                return "hands(0, 0, 10)";
            case "tip": return "tip(5, 2)";
            case "plan": return "plan(0)";
            case "from": return "from(1)";
            default: return "";
        }
    }

    /** One more than there is a place for. */
    private static String onceMore(String name) {
        switch (name) {
            case "arm": return "arm(20, 1, 0)";
            case "hook": return "hook(0, 0, 0)";
            case "dart": return "dart(20, 1, 0, 0)";
            case "person": return "person(0, 0, false)";
            case "thorn": return "thorn(1, 0, 1, 0)";
            case "butt": return "butt(1)";
            case "type": return "type(59, 1)";
            default: return "";
        }
    }

    /** "Not every number below 0 is a refusal". */
    private static void answersBelowZero() {
        Run run = Run.anew().does("arm(20, 1, 0)", "hook(0, 0, 0)", "dart(300, 99, 0, 0)");
        run.counted("straight(0, 0, 0, 0)", -1).counted("kinds(0)", -1).counted("fault()", -1);
        run.counted("limb(0, 0)", -1).counted("plan(0)", -5);
        run.does("praise(-2)", "person(0, 0, true)").counted("span(0, 0)", -2).counted("praise(1)", -2);
    }

    private static void testsTold(String page) throws IOException {
        List<String> told = new ArrayList<>();
        for (String[] row : rows(page, "| test |")) {
            told.add(row[0]);
        }
        List<String> found;
        try (Stream<Path> files = Files.list(Path.of("src/test/java"))) {
            found = files.map(file -> file.getFileName().toString()).filter(name -> name.endsWith("Test.java"))
                    .map(name -> name.substring(0, name.length() - ".java".length())).sorted().collect(Collectors.toList());
        }
        Collections.sort(told);
        Check.isTrue("the tests that are told, " + told + ", are those that are there: " + found, told.equals(found));
    }
}
