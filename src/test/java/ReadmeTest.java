import java.io.ByteArrayOutputStream;
import java.io.PrintStream;
import java.lang.reflect.Method;
import java.net.URL;
import java.net.URLClassLoader;
import java.nio.file.Files;
import java.nio.file.Path;
import java.util.ArrayList;
import java.util.List;
import java.util.TreeSet;
import java.util.regex.Matcher;
import java.util.regex.Pattern;
import javax.tools.ToolProvider;

/** What README.md says is so: its examples are compiled and run, its tables tell every call. */
public final class ReadmeTest {
    private static final Pattern BLOCK = Pattern.compile("(?ms)^```(\\w+)\\n(.*?)^```$");
    private static final Pattern ANSWERED =
            Pattern.compile("(int \\w+ = )?(house\\.\\w+\\(.*\\));\\s+// (-?\\d+|throws NoSuchElementException)(:.*)?");
    private static final Pattern UNANSWERED =
            Pattern.compile("RollHouse house = new RollHouse\\(\\);|house\\.clear\\(\\);");
    private static final Pattern TOLD_CALL = Pattern.compile("(?m)^\\| `(\\w+)\\(([^)]*)\\)` \\|");
    private static final Pattern TOLD_TEST = Pattern.compile("\\b[A-Z]\\w+Test\\b");

    public static void main(String[] args) {
        Check.run(ReadmeTest.class);
    }

    static void theTablesTellEveryCallOnce(Check check) throws Exception {
        List<String> told = new ArrayList<>();
        Matcher row = TOLD_CALL.matcher(readme());
        while (row.find()) {
            told.add(row.group(1) + " with " + (row.group(2).isEmpty() ? 0 : row.group(2).split(", ").length));
        }
        TreeSet<String> face = new TreeSet<>();
        for (Method method : RollHouse.class.getMethods()) {
            if (method.getDeclaringClass() == RollHouse.class) {
                face.add(method.getName() + " with " + method.getParameterCount());
            }
        }
        check.due("calls told", told.size(), face.size());
        check.due("told is " + told + ", the face is " + face, new TreeSet<>(told).equals(face));
    }

    static void theExamplesUseEveryCall(Check check) throws Exception {
        TreeSet<String> used = new TreeSet<>();
        Matcher call = Pattern.compile("house\\.(\\w+)\\(").matcher(String.join("", blocks("java")));
        while (call.find()) {
            used.add(call.group(1));
        }
        for (Method method : RollHouse.class.getMethods()) {
            if (method.getDeclaringClass() == RollHouse.class) {
                check.due("an example of " + method.getName(), used.contains(method.getName()));
            }
        }
    }

    static void theExamplesAnswerAsTheyTell(Check check) throws Exception {
        int number = 0;
        for (String block : blocks("java")) {
            if (!block.contains("class ")) {
                number++;
                runExample(check, "Example" + number, block);
            }
        }
        check.due("there are examples", number > 0);
    }

    static void theProgramPrintsWhatIsTold(Check check) throws Exception {
        String program = blocks("java").get(0);
        Class<?> made = compiled("First", program);
        PrintStream console = System.out;
        ByteArrayOutputStream printed = new ByteArrayOutputStream();
        System.setOut(new PrintStream(printed, true));
        try {
            made.getMethod("main", String[].class).invoke(null, (Object) new String[0]);
        } finally {
            System.setOut(console);
        }
        String got = printed.toString().replace(System.lineSeparator(), "\n");
        check.due("the program printed " + got, got.equals(blocks("text").get(0)));
    }

    static void theTestsThatItNamesAreThere(Check check) throws Exception {
        Matcher test = TOLD_TEST.matcher(readme());
        while (test.find()) {
            check.due(test.group() + " is there", Files.exists(Path.of("src/test/java", test.group() + ".java")));
        }
    }

    /** Makes a program of an example that keeps the answers, and holds them against those told. */
    private static void runExample(Check check, String name, String block) throws Exception {
        StringBuilder program = new StringBuilder("public final class " + name + " {\n"
                + "public static void run(java.util.List<Long> got) {\n");
        List<String> lines = new ArrayList<>();
        List<Long> wanted = new ArrayList<>();
        for (String line : block.split("\n")) {
            Matcher answered = ANSWERED.matcher(line);
            if (answered.matches()) {
                lines.add(line);
                wanted.add(answerTold(answered.group(3)));
                program.append(keeping(answered));
            } else {
                check.due(name + " has a line without an answer: " + line, UNANSWERED.matcher(line).matches());
                program.append(line).append('\n');
            }
        }
        List<Long> got = new ArrayList<>();
        compiled(name, program.append("}\n}\n").toString()).getMethod("run", List.class).invoke(null, got);
        check.due(name + " answered", got.size(), lines.size());
        for (int i = 0; i < got.size() && i < lines.size(); i++) {
            check.due(name + ", " + lines.get(i), got.get(i), wanted.get(i));
        }
    }

    private static long answerTold(String answer) {
        return answer.startsWith("throws") ? House.THROWS : Long.parseLong(answer);
    }

    private static String keeping(Matcher answered) {
        String named = answered.group(1);
        if (named != null) {
            String variable = named.substring("int ".length(), named.length() - " = ".length());
            return named + answered.group(2) + ";\ngot.add((long) " + variable + ");\n";
        }
        String kept = "got.add((long) " + answered.group(2) + ");";
        return "try { " + kept + " } catch (java.util.NoSuchElementException e) { got.add("
                + House.THROWS + "L); }\n";
    }

    private static Class<?> compiled(String name, String program) throws Exception {
        Path room = Files.createTempDirectory("readme");
        Path source = room.resolve(name + ".java");
        Files.writeString(source, program);
        int failed = ToolProvider.getSystemJavaCompiler().run(null, System.out, System.out,
                "-cp", System.getProperty("java.class.path"), "-d", room.toString(), source.toString());
        if (failed != 0) {
            throw new IllegalStateException(name + " does not compile");
        }
        try (URLClassLoader loader = new URLClassLoader(new URL[] {room.toUri().toURL()})) {
            return loader.loadClass(name);
        } finally {
            Files.delete(source);
            Files.delete(room.resolve(name + ".class"));
            Files.delete(room);
        }
    }

    private static List<String> blocks(String kind) throws Exception {
        List<String> found = new ArrayList<>();
        Matcher block = BLOCK.matcher(readme());
        while (block.find()) {
            if (block.group(1).equals(kind)) {
                found.add(block.group(2));
            }
        }
        return found;
    }

    private static String readme() throws Exception {
        return Files.readString(Path.of("README.md"));
    }
}
