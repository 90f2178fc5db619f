import java.io.File;
import java.io.IOException;
import java.lang.reflect.InvocationTargetException;
import java.lang.reflect.Method;
import java.lang.reflect.Modifier;
import java.net.URL;
import java.net.URLClassLoader;
import java.nio.file.Files;
import java.nio.file.Path;
import java.util.ArrayList;
import java.util.Arrays;
import java.util.Comparator;
import java.util.List;
import java.util.NoSuchElementException;
import java.util.Set;
import java.util.TreeSet;
import java.util.regex.Matcher;
import java.util.regex.Pattern;
import java.util.stream.Collectors;
import java.util.stream.Stream;
import javax.tools.JavaCompiler;
import javax.tools.ToolProvider;

/** README.md: its examples answer as it tells, its tables tell what is so. Run in the project's folder. */
public final class ReadmeTest {
    private static final Pattern BLOCK = Pattern.compile("(?ms)^```(\\w+)\n(.*?)^```$");
    private static final Pattern CALL = Pattern.compile("(\\w+\\.\\w+\\(.*\\)); *// ([^:]*)(:.*)?");
    private static final Pattern MAKING = Pattern.compile("BestPair \\w+ = new BestPair\\(\\);|tape\\(\\w+, \"[^\"]*\"\\);");
    private static final String THROWS = "throws NoSuchElementException";

    private static final String BEGIN = "public final class ReadmeExamples {\n"
            + "public static void run(java.util.List<Object> got) {\n";

    public static void main(String[] args) throws IOException, ReflectiveOperationException {
        String page = Files.readString(Path.of("README.md"));
        examples(page);
        calls(page);
        refusals(page);
        items(page);
        tests(page);
        Check.end("ReadmeTest");
    }

    /** The page's examples are one program; what its calls answer is kept in a list. */
    private static void examples(String page) throws IOException, ReflectiveOperationException {
        StringBuilder members = new StringBuilder();
        StringBuilder body = new StringBuilder(BEGIN);
        List<String> told = new ArrayList<>();
        List<String> asked = new ArrayList<>();
        for (String block : blocks(page, "java")) {
            if (block.startsWith("static ")) {
                members.append(block);
            } else {
                block.lines().forEach(line -> body.append(statement(line, asked, told)).append('\n'));
            }
        }
        List<Object> got = run(body.append("}\n").append(members).append("}\n").toString());
        Check.due("README.md has examples", told.size() >= 80, true);
        Check.due("README.md, how many examples answer", got.size(), told.size());
        for (int k = 0; k < got.size() && k < told.size(); k++) {
            boolean same = got.get(k).toString().equals(told.get(k));
            Check.due("README.md, " + asked.get(k) + " (" + got.get(k) + ") is as told: " + told.get(k), same, true);
        }
        usesAll(asked);
    }

    private static List<String> blocks(String page, String language) {
        List<String> found = new ArrayList<>();
        Matcher block = BLOCK.matcher(page);
        while (block.find()) {
            if (block.group(1).equals(language)) {
                found.add(block.group(2));
            }
        }
        return found;
    }

    private static String statement(String line, List<String> asked, List<String> told) {
        Matcher call = CALL.matcher(line);
        if (!call.matches()) {
            Check.due("README.md, a call with its answer: " + line, MAKING.matcher(line).matches(), true);
            return line;
        }
        String expression = call.group(1);
        String answer = call.group(2).trim();
        asked.add(expression);
        told.add(answer.replace("NONE", "-1").replace("HIDDEN", "-1000000"));
        return "try { got.add(" + expression + "); } catch (java.util.NoSuchElementException e) { got.add(\""
                + THROWS + "\"); }";
    }

    private static List<Object> run(String source) throws IOException, ReflectiveOperationException {
        List<Object> got = new ArrayList<>();
        JavaCompiler compiler = ToolProvider.getSystemJavaCompiler();
        Check.due("there is a compiler", compiler != null, true);
        Path folder = Files.createTempDirectory("readme");
        Path file = Files.writeString(folder.resolve("ReadmeExamples.java"), source);
        String classes = System.getProperty("java.class.path");
        int code = compiler == null ? 1
                : compiler.run(null, null, null, "-d", folder.toString(), "-cp", classes, file.toString());
        Check.due("README.md's examples compile", code, 0);
        if (code == 0) {
            URL[] where = {folder.toUri().toURL()};
            try (URLClassLoader loader = new URLClassLoader(where, ReadmeTest.class.getClassLoader())) {
                loader.loadClass("ReadmeExamples").getMethod("run", List.class).invoke(null, got);
            }
        }
        try (Stream<Path> all = Files.walk(folder)) {
            all.sorted(Comparator.reverseOrder()).map(Path::toFile).forEach(File::delete);
        }
        return got;
    }

    /** Every call of the face is shown at least once. */
    private static void usesAll(List<String> asked) {
        for (Method m : face()) {
            boolean shown = asked.stream().anyMatch(call -> call.matches("\\w+\\." + m.getName() + "\\(.*"));
            Check.due("README.md shows " + m.getName(), shown, true);
        }
    }

    private static List<Method> face() {
        return Arrays.stream(BestPair.class.getDeclaredMethods())
                .filter(m -> Modifier.isPublic(m.getModifiers())).collect(Collectors.toList());
    }

    /** The rows of the table below a heading, without their outer bars and blanks. */
    private static List<String[]> table(String page, String heading) {
        int from = page.indexOf(heading);
        Check.due("README.md has " + heading, from >= 0, true);
        List<String[]> rows = new ArrayList<>();
        boolean within = false;
        for (String line : page.substring(Math.max(0, from)).lines().collect(Collectors.toList())) {
            if (!line.startsWith("|") && within) {
                break;
            }
            within |= line.startsWith("|");
            if (line.startsWith("| `")) {
                rows.add(line.substring(1, line.length() - 1).trim().split(" *\\| *"));
            }
        }
        Check.due("README.md has rows below " + heading, rows.isEmpty(), false);
        return rows;
    }

    /** The table of all calls has those of the document, with its names for their numbers. */
    private static void calls(String page) {
        Set<String> told = new TreeSet<>();
        Set<String> counted = new TreeSet<>();
        for (String[] row : table(page, "### All calls")) {
            String call = row[0].replace("`", "");
            told.add(call);
            int many = call.endsWith("()") ? 0 : call.split(",").length;
            counted.add(call.substring(0, call.indexOf('(')) + " " + many);
        }
        Set<String> face = face().stream().map(m -> m.getName() + " " + m.getParameterCount())
                .collect(Collectors.toCollection(TreeSet::new));
        Check.due("README.md's calls " + counted + " are " + face, counted.equals(face), true);
        if (!Edge.DOCUMENT.isEmpty()) {
            Set<String> promised = new TreeSet<>();
            Matcher method = Pattern.compile("public (?:int|boolean) (\\w+\\([^)]*\\))").matcher(Edge.DOCUMENT);
            while (method.find()) {
                promised.add(method.group(1).replaceAll("(int|long) ", ""));
            }
            Check.due("README.md's calls " + told + " are " + promised, told.equals(promised), true);
        }
    }

    /** What the table says of refused calls: of a new object with a full TAPE, by numbers that are nothing. */
    private static void refusals(String page) throws IllegalAccessException {
        for (String[] row : table(page, "### All calls")) {
            String name = row[0].substring(1, row[0].indexOf('('));
            String told = row[2].replace("`", "").replaceAll(":.*", "");
            for (Method m : face()) {
                if (m.getName().equals(name)) {
                    String want = told.replace("NONE", "-1").replace("HIDDEN", "-1000000");
                    String got = refused(m);
                    Check.due("README.md, " + name + " refused (" + got + ") is as told: " + told, got.equals(want), true);
                }
            }
        }
    }

    private static String refused(Method m) throws IllegalAccessException {
        BestPair x = new BestPair();
        Check.tape(x, "p".repeat(160));
        Object[] values = new Object[m.getParameterCount()];
        for (int k = 0; k < values.length; k++) {
            if (m.getParameterTypes()[k] == long.class) {
                values[k] = Long.MIN_VALUE;
            } else {
                values[k] = Integer.MIN_VALUE;
            }
        }
        try {
            return m.invoke(x, values).toString();
        } catch (InvocationTargetException e) {
            return e.getCause() instanceof NoSuchElementException ? THROWS : e.getCause().toString();
        }
    }

    /** The table of items: their bounds, and what holds without them. */
    private static void items(String page) {
        List<String[]> rows = table(page, "### PEOPLE");
        Check.due("items", rows.size(), 7);
        for (String[] row : rows) {
            String letter = row[0].replace("`", "");
            String[] bounds = row[2].split(" to ");
            int least = Integer.parseInt(bounds[0]);
            int most = Integer.parseInt(bounds[1]);
            for (int value = 0; value < 100; value++) {
                int fault = Check.fault(0, "p;p" + letter + value);
                Check.due("README.md, " + letter + value + " is good", fault == -1, value >= least && value <= most);
            }
            String without = told(Check.people("p;p"));
            Check.due("README.md, without " + letter, told(Check.people("p" + letter + row[3] + ";p")).equals(without), true);
        }
    }

    private static String told(BestPair x) {
        StringBuilder text = new StringBuilder();
        for (int what = 0; what < 5; what++) {
            text.append(x.person(0, what)).append(' ');
        }
        return text.append(x.pair(0, 0)).append(' ').append(x.pair(0, 1)).toString();
    }

    /** The table of tests has all of them, and the commands name tests that there are. */
    private static void tests(String page) throws IOException {
        Set<String> told = new TreeSet<>();
        for (String[] row : table(page, "## How to run its tests")) {
            told.add(row[0].replace("`", ""));
        }
        Set<String> there = names(Path.of("src/test/java"));
        there.removeIf(name -> !name.endsWith("Test"));
        Check.due("README.md's tests " + told + " are " + there, told.equals(there), true);
        Path shared = Path.of("../shared/tests");
        Set<String> known = new TreeSet<>(there);
        known.addAll(Files.isDirectory(shared) ? names(shared) : Set.of("BestPairRuns"));
        int commands = 0;
        for (String block : blocks(page, "sh")) {
            Matcher command = Pattern.compile("(?m)^(?:bash \\.ci/run|java -cp \\S+) (\\w+)$").matcher(block);
            while (command.find()) {
                commands++;
                Check.due("README.md names the test " + command.group(1), known.contains(command.group(1)), true);
            }
        }
        Check.due("README.md says how to run one alone", commands > 0, true);
        Check.due("README.md says how to run all", blocks(page, "sh").contains("bash .ci/run\n"), true);
    }

    private static Set<String> names(Path folder) throws IOException {
        try (Stream<Path> all = Files.list(folder)) {
            return all.map(path -> path.getFileName().toString()).filter(name -> name.endsWith(".java"))
                    .map(name -> name.replace(".java", "")).collect(Collectors.toCollection(TreeSet::new));
        }
    }
}
