import java.lang.reflect.Method;
import java.lang.reflect.Modifier;
import java.nio.file.DirectoryStream;
import java.nio.file.Files;
import java.nio.file.Path;
import java.util.ArrayList;
import java.util.HashMap;
import java.util.HashSet;
import java.util.List;
import java.util.Map;
import java.util.Set;
import java.util.regex.Matcher;
import java.util.regex.Pattern;

/** README.md is held against the class and against .ci/run: its examples, its calls, its tests, its commands. */
public final class ReadmeTest {
    private static final Path README = Path.of("README.md");
    private static final Path SCRIPT = Path.of(".ci/run");
    private static final Path TESTS = Path.of("src/test/java");
    private static final Pattern ROW = Pattern.compile("x\\.(\\w+)\\((.*?)\\);\\s*// (-?\\d+)\\b.*");
    private static final Pattern LETTERS = Pattern.compile("for \\(char c : \"(.*)\"\\.toCharArray\\(\\)\\) \\{");
    private static final Pattern CALL = Pattern.compile("`(\\w+)\\(([^)]*)\\)`");
    private static final int LEAST_ROWS = 20;

    private static final Map<String, Method> METHODS = new HashMap<>();
    private static SignalsSighted x = new SignalsSighted();
    private static int rows = 0;
    private static int wrong = 0;

    private static void need(boolean so, String what) {
        if (!so) {
            wrong++;
            System.out.println(what);
        }
    }

    public static void main(String[] args) throws Exception {
        for (Method m : SignalsSighted.class.getDeclaredMethods()) {
            if (Modifier.isPublic(m.getModifiers())) {
                METHODS.put(m.getName(), m);
            }
        }
        String text = Files.readString(README);
        for (String line : blocks(text, "java")) {
            example(line.trim());
        }
        need(rows >= LEAST_ROWS, "README.md has only " + rows + " examples that tell an answer");
        calls(text);
        tests(text);
        commands(blocks(text, "sh"));
        System.out.println(wrong == 0 ? "README.md is as the class and .ci/run are" : wrong + " faults of README.md");
        if (wrong != 0) {
            System.exit(1);
        }
    }

    /** The lines of all blocks of a language. */
    private static List<String> blocks(String text, String language) {
        List<String> found = new ArrayList<>();
        boolean inside = false;
        for (String line : text.split("\n")) {
            if (line.startsWith("```")) {
                inside = !inside && line.equals("```" + language);
            } else if (inside && !line.isBlank()) {
                found.add(line);
            }
        }
        return found;
    }

    private static void example(String line) throws Exception {
        Matcher row = ROW.matcher(line);
        Matcher letters = LETTERS.matcher(line);
        if (line.startsWith("SignalsSighted x = new SignalsSighted();")) {
            x = new SignalsSighted();
        } else if (letters.matches()) {
            for (char c : letters.group(1).toCharArray()) {
                x.letter(c);
            }
        } else if (row.matches()) {
            rows++;
            long got = call(row.group(1), row.group(2));
            need(got == Long.parseLong(row.group(3)), line + " answered " + got);
        } else {
            need(line.equals("x.letter(c);") || line.equals("}"), "README.md has a line that tells no answer: " + line);
        }
    }

    private static long call(String name, String args) throws Exception {
        Method m = METHODS.get(name);
        String[] told = args.isEmpty() ? new String[0] : args.split(", ");
        if (m == null || m.getParameterCount() != told.length) {
            need(false, "there is no such call: " + name + "(" + args + ")");
            return 0;
        }
        Object[] numbers = new Object[told.length];
        for (int i = 0; i < told.length; i++) {
            if (m.getParameterTypes()[i] == long.class) {
                numbers[i] = Long.parseLong(told[i]);
            } else {
                numbers[i] = Integer.parseInt(told[i]);
            }
        }
        return ((Number) m.invoke(x, numbers)).longValue();
    }

    /** Every call of the face is named with as many arguments as it takes. */
    private static void calls(String text) {
        Set<String> named = new HashSet<>();
        Matcher call = CALL.matcher(text);
        while (call.find()) {
            int count = call.group(2).isEmpty() ? 0 : call.group(2).split(", ").length;
            named.add(call.group(1) + count);
        }
        for (Method m : METHODS.values()) {
            need(named.contains(m.getName() + m.getParameterCount()), "README.md doesn't name " + m.getName());
        }
    }

    private static void tests(String text) throws Exception {
        try (DirectoryStream<Path> found = Files.newDirectoryStream(TESTS, "*.java")) {
            for (Path file : found) {
                String name = file.getFileName().toString().replace(".java", "");
                need(text.contains("- `" + name + "`: "), "README.md doesn't name " + name);
            }
        }
    }

    /** Each command that README.md gives is one that .ci/run runs (there with what it does if the command fails). */
    private static void commands(List<String> given) throws Exception {
        Set<String> run = new HashSet<>();
        for (String line : Files.readAllLines(SCRIPT)) {
            run.add(line.trim().replaceAll(" \\|\\| .*$", ""));
        }
        run.add(".ci/run");
        run.add("rm -rf \"$out\"");
        for (String line : given) {
            need(run.contains(line.trim()), ".ci/run doesn't run: " + line.trim());
        }
        need(given.stream().anyMatch(line -> line.trim().startsWith("javac ")), "README.md doesn't tell how the tests are compiled");
        need(given.stream().anyMatch(line -> line.trim().startsWith("java ")), "README.md doesn't tell how the tests are run");
    }
}
