import java.io.IOException;
import java.lang.reflect.Method;
import java.net.URL;
import java.net.URLClassLoader;
import java.nio.charset.StandardCharsets;
import java.nio.file.Files;
import java.nio.file.Path;
import java.util.ArrayList;
import java.util.List;
import java.util.Set;
import java.util.TreeSet;
import java.util.regex.Matcher;
import java.util.regex.Pattern;
import java.util.stream.Stream;

/**
 * What README.md says: its calls are compiled and made, and have to answer as they do there;
 * its commands are run, and the one for all tests has to name each of them.
 */
public final class ReadmeTest extends Sheet {
    private static final Path README = Path.of("README.md");
    private static final Path TESTS = Path.of("src/test/java");
    private static final Path SHARED_TESTS = Path.of("../shared/tests");
    private static final String USE = "How to use it";
    private static final String RUN_TESTS = "How to run its tests";
    private static final List<String> CODES = List.of(
            "NO_SUCH", "BAD_VALUE", "BAD_TEXT", "TOO_MANY", "NOT_POSSIBLE", "NONE");

    /** A call, the number behind it, and what is said of that. */
    private static final Pattern ANSWERED = Pattern.compile("(x\\.(\\w+)\\(.*\\));\\s+// (-?\\d+)(?:: (\\S.*))?");
    private static final Pattern MADE = Pattern.compile("TropicRanks x = new TropicRanks\\(\\);");

    private static final Pattern ARRAY = Pattern.compile("the array (\\d) is (\\d[\\d,;]*) then");

    /** The lines with an answer, and how many of their calls were made. */
    private static final List<String> answered = new ArrayList<>();
    private static int made = 0;

    private static Path room;

    public static void main(String[] args) throws IOException, InterruptedException, ReflectiveOperationException {
        room = Files.createTempDirectory("readme");
        try {
            callsAnswerAsTheyDoThere();
            errorsAreThoseOfTheClass();
            commandsOfUseRun();
            commandForAllTestsNamesThem();
            commandsForOneTestRun();
            eachTestIsDescribed();
        } finally {
            removeAll(room);
        }
        end();
    }

    private static void so(String what, boolean isSo) {
        due(what, isSo ? 1 : 0, 1);
    }

    // ---- what README.md has

    /** All lines of a chapter, behind its heading. */
    private static List<String> chapter(String heading) throws IOException {
        List<String> lines = new ArrayList<>();
        boolean isIn = false;
        for (String line : Files.readAllLines(README)) {
            if (line.startsWith("## ")) {
                isIn = line.equals("## " + heading);
            } else if (isIn) {
                lines.add(line);
            }
        }
        so("README.md has a chapter, " + heading, !lines.isEmpty());
        return lines;
    }

    /** The blocks of a chapter that are in a language. */
    private static List<List<String>> blocks(String heading, String language) throws IOException {
        List<List<String>> blocks = new ArrayList<>();
        List<String> block = null;
        boolean isWanted = false;
        for (String line : chapter(heading)) {
            if (line.startsWith("```")) {
                if (block == null) {
                    block = new ArrayList<>();
                    isWanted = line.equals("```" + language);
                } else {
                    if (isWanted) {
                        blocks.add(block);
                    }
                    block = null;
                }
            } else if (block != null) {
                block.add(line);
            }
        }
        so("each block ends, " + heading, block == null);
        so(heading + " has " + language, !blocks.isEmpty());
        return blocks;
    }

    // ---- its calls

    private static void callsAnswerAsTheyDoThere()
            throws IOException, InterruptedException, ReflectiveOperationException {
        StringBuilder members = new StringBuilder();
        StringBuilder body = new StringBuilder();
        Set<String> called = new TreeSet<>();
        for (List<String> block : blocks(USE, "java")) {
            if (block.get(0).startsWith("static ")) {
                members.append(String.join("\n", block)).append('\n');
            } else {
                block.forEach(line -> addStatement(line, body, called));
            }
        }
        so("each method of the class is called, but only these are: " + called, called.equals(methodsOfTheClass()));
        makeCalls(members.toString(), body.toString());
        due("calls that were made", made, answered.size());
    }

    /** A call is made within one of answered, which looks at what it answers. */
    private static void addStatement(String line, StringBuilder body, Set<String> called) {
        Matcher call = ANSWERED.matcher(line);
        if (call.matches()) {
            int want = Integer.parseInt(call.group(3));
            body.append("ReadmeTest.answered(x, ").append(call.group(1)).append(");\n");
            called.add(call.group(2));
            namesItsCode(line, want, call.group(4));
            answered.add(line);
        } else {
            so("a call with its answer: " + line, MADE.matcher(line).matches());
            body.append(line).append('\n');
        }
    }

    /** For the calls that are compiled: looks at an answer, and at the array that is told of behind it. */
    public static void answered(TropicRanks x, int answer) {
        String line = answered.get(made);
        Matcher call = ANSWERED.matcher(line);
        so("a call: " + line, call.matches());
        due("README.md: " + call.group(1), answer, Integer.parseInt(call.group(3)));
        Matcher array = ARRAY.matcher(line);
        if (array.find()) {
            dueArray(x, Integer.parseInt(array.group(1)), array.group(2));
        }
        made++;
    }

    /** An answer below 0 is followed by the name of its code; no other one is. */
    private static void namesItsCode(String line, int answer, String said) {
        for (String code : CODES) {
            boolean isNamed = said != null && Pattern.compile("^" + code + "\\b").matcher(said).find();
            so(line + ", " + code, isNamed == (answer == -1 - CODES.indexOf(code)));
        }
    }

    private static Set<String> methodsOfTheClass() {
        Set<String> names = new TreeSet<>();
        for (Method method : TropicRanks.class.getMethods()) {
            if (method.getDeclaringClass() == TropicRanks.class) {
                names.add(method.getName());
            }
        }
        return names;
    }

    private static void makeCalls(String members, String body)
            throws IOException, InterruptedException, ReflectiveOperationException {
        Path source = room.resolve("ReadmeCalls.java");
        Files.writeString(source, "public final class ReadmeCalls {\n" + members
                + "public static void make() {\n" + body + "}\n}\n");
        List<String> printed = new ArrayList<>();
        int error = run("javac -d '" + room + "' -cp '" + System.getProperty("java.class.path") + "' '" + source + "'",
                printed);
        due("the calls of README.md compile\n" + String.join("\n", printed) + "\n exit code", error, 0);
        if (error == 0) {
            try (URLClassLoader loader = new URLClassLoader(new URL[] {room.toUri().toURL()},
                    ReadmeTest.class.getClassLoader())) {
                loader.loadClass("ReadmeCalls").getMethod("make").invoke(null);
            }
        }
    }

    // ---- its errors

    private static void errorsAreThoseOfTheClass() throws IOException, ReflectiveOperationException {
        Pattern row = Pattern.compile("\\| `(\\w+)` \\| (-?\\d+) \\| .*");
        List<String> named = new ArrayList<>();
        for (String line : chapter(USE)) {
            Matcher error = row.matcher(line);
            if (error.matches()) {
                named.add(error.group(1));
                due("README.md: " + error.group(1), TropicRanks.class.getField(error.group(1)).getInt(null),
                        Integer.parseInt(error.group(2)));
            }
        }
        so("all constants, in their order: " + named, named.equals(CODES));
    }

    // ---- its commands

    /** Runs a command in the project's folder, with what it makes put where nothing else is. */
    private static int run(String command, List<String> printed) throws IOException, InterruptedException {
        String there = command.replaceAll("(-d|-cp) out\\b", "$1 " + Matcher.quoteReplacement(room.resolve("out").toString()));
        Process process = new ProcessBuilder("bash", "-c", there).redirectErrorStream(true).start();
        process.getOutputStream().close();
        String all = new String(process.getInputStream().readAllBytes(), StandardCharsets.UTF_8);
        all.lines().forEach(printed::add);
        return process.waitFor();
    }

    private static void runs(String command) throws IOException, InterruptedException {
        List<String> printed = new ArrayList<>();
        int code = run(command, printed);
        due("README.md: " + command + "\n" + String.join("\n", printed) + "\n exit code", code, 0);
    }

    private static void commandsOfUseRun() throws IOException, InterruptedException {
        for (List<String> block : blocks(USE, "sh")) {
            for (String command : block) {
                runs(command);
            }
        }
        so("the class is compiled then", Files.isRegularFile(room.resolve("out/TropicRanks.class")));
    }

    private static void commandForAllTestsNamesThem() throws IOException, InterruptedException {
        List<String> block = blocks(RUN_TESTS, "sh").get(0);
        due("one command runs all tests", block.size(), 1);
        List<String> named = new ArrayList<>();
        due("README.md: " + block.get(0) + " --list, exit code", run(block.get(0) + " --list", named), 0);
        List<String> own = withMain(TESTS);
        List<String> shared = withMain(SHARED_TESTS);
        so("there are tests of the project", own.contains(TESTS.resolve("ReadmeTest.java").toString()));
        so("there are shared tests", !shared.isEmpty());
        Set<String> all = new TreeSet<>(own);
        all.addAll(shared);
        so("all tests are run, not only " + named, all.equals(new TreeSet<>(named)));
        due("each of them once", named.size(), all.size());
    }

    /** The Java files of a folder that can be run. */
    private static List<String> withMain(Path folder) throws IOException {
        List<String> found = new ArrayList<>();
        try (Stream<Path> files = Files.list(folder)) {
            for (Path file : files.sorted().toList()) {
                if (file.toString().endsWith(".java") && Files.readString(file).contains("static void main(String")) {
                    found.add(file.toString());
                }
            }
        }
        return found;
    }

    private static void commandsForOneTestRun() throws IOException, InterruptedException {
        List<List<String>> blocks = blocks(RUN_TESTS, "sh");
        due("blocks of commands", blocks.size(), 2);
        for (String command : blocks.get(blocks.size() - 1)) {
            // This test would run itself without an end.
            so("not this test: " + command, !command.contains("ReadmeTest"));
            runs(command);
        }
    }

    private static void eachTestIsDescribed() throws IOException {
        Set<String> described = new TreeSet<>();
        Matcher names = Pattern.compile("`(\\w+Test)`").matcher(String.join("\n", chapter(RUN_TESTS)));
        while (names.find()) {
            described.add(TESTS.resolve(names.group(1) + ".java").toString());
        }
        so("each test is described, and is there: " + described, described.equals(new TreeSet<>(withMain(TESTS))));
    }

    private static void removeAll(Path folder) throws IOException {
        try (Stream<Path> files = Files.walk(folder)) {
            for (Path file : files.sorted((a, b) -> b.compareTo(a)).toList()) {
                Files.delete(file);
            }
        }
    }
}
