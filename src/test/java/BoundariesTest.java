import java.lang.reflect.Method;
import java.nio.file.DirectoryStream;
import java.nio.file.Files;
import java.nio.file.Path;
import java.util.ArrayList;
import java.util.Collections;
import java.util.HashMap;
import java.util.HashSet;
import java.util.List;
import java.util.Map;
import java.util.Set;
import java.util.TreeSet;
import java.util.regex.Matcher;
import java.util.regex.Pattern;

/**
 * The cases under src/test/boundaries: each names a promise and the document's sentence, makes its
 * calls on a new object, and tells what is due. It is looked at, too, that the document has these
 * words, and that each refusal that a promise tells is met in a case of that promise.
 */
public final class BoundariesTest {
    private static final int PROMISES = 47;
    private static final int MOST_CALLS = 512;
    private static final long FAR = 4000000000000000000L;
    private static final Path CASES = Path.of("src/test/boundaries");
    private static final Path DOCUMENT = Path.of("../shared/DOC.md");
    private static final Pattern HEAD = Pattern.compile("== (\\d+) \\| (.+)");
    private static final Pattern ROW = Pattern.compile("(\\w+)\\((.*)\\) => (-?\\d+)");
    private static final Pattern FACE = Pattern.compile("`(?:int |long )?(\\w+)\\(");
    /** A number told as an answer, not one that an argument or a row of numbers is told by. */
    private static final Pattern REFUSAL = Pattern.compile("(?<!post |\\bi |\\(|below |REFUSALS |\\.\\. |\\d)-(\\d+)");

    private static final Map<String, Method> METHODS = new HashMap<>();
    private static final String[] SECTIONS = new String[PROMISES + 1];
    private static final Set<String> MET = new HashSet<>();
    private static final Set<Integer> NAMED = new HashSet<>();

    private static SignalsSighted x = new SignalsSighted();
    private static boolean documentIsHere = false;
    private static int calls = 0;
    private static int cases = 0;
    private static int rows = 0;
    private static int wrong = 0;
    private static int promise = 0;
    private static String sentence = "";

    public static void main(String[] args) throws Exception {
        for (Method m : SignalsSighted.class.getDeclaredMethods()) {
            METHODS.put(m.getName(), m);
        }
        readDocument();
        for (Path file : caseFiles()) {
            promise = 0;
            for (String line : Files.readAllLines(file)) {
                read(file, line);
            }
        }
        lookForGaps();
        System.out.println(cases + " boundaries, " + rows + " rows: " + (wrong == 0 ? "all hold" : wrong + " faults"));
        if (wrong != 0) {
            System.exit(1);
        }
    }

    private static void fault(String what) {
        wrong++;
        System.out.println("promise " + promise + " \"" + sentence + "\": " + what);
    }

    private static List<Path> caseFiles() throws Exception {
        List<Path> files = new ArrayList<>();
        try (DirectoryStream<Path> found = Files.newDirectoryStream(CASES, "*.txt")) {
            found.forEach(files::add);
        }
        Collections.sort(files);
        return files;
    }

    /** Part 0 is all that stands ahead of the first promise; without the document the calls are made all the same. */
    private static void readDocument() throws Exception {
        documentIsHere = Files.exists(DOCUMENT);
        if (!documentIsHere) {
            System.out.println(DOCUMENT + " is not here: the words that are quoted were not looked at");
            return;
        }
        String[] parts = Files.readString(DOCUMENT).split("(?m)^## Promise \\d+: ");
        for (int i = 0; i <= PROMISES; i++) {
            SECTIONS[i] = i < parts.length ? parts[i].replaceAll("\\s+", " ") : "";
        }
    }

    private static void read(Path file, String line) throws Exception {
        Matcher head = HEAD.matcher(line);
        Matcher row = ROW.matcher(line);
        if (head.matches()) {
            begin(Integer.parseInt(head.group(1)), head.group(2));
        } else if (line.equals("new")) {
            makeNew();
        } else if (row.matches() && promise != 0) {
            due(row.group(1), row.group(2), Long.parseLong(row.group(3)));
        } else if (promise != 0 && !line.isBlank() && !line.startsWith("-- ")) {
            fault(file + " has a line that is none: " + line);
        }
    }

    private static void begin(int number, String words) {
        promise = number;
        sentence = words;
        cases++;
        NAMED.add(number);
        if (number < 1 || number > PROMISES) {
            fault("there is no such promise");
        } else if (documentIsHere && !SECTIONS[number].contains(words) && !SECTIONS[0].contains(words)) {
            fault("the document doesn't say so");
        }
        makeNew();
    }

    private static void makeNew() {
        x = new SignalsSighted();
        calls = 0;
    }

    private static void due(String name, String args, long want) throws Exception {
        rows++;
        long got = answer(name, args);
        MET.add(promise + name + want);
        if (got != want) {
            fault(name + "(" + args + ") answered " + got + ", due is " + want);
        }
        if (calls > MOST_CALLS) {
            fault("more calls than an object is used for");
        }
    }

    private static long answer(String name, String args) throws Exception {
        if (name.equals("letters")) {
            return comeLetters(args);
        }
        if (name.equals("tell")) {
            comeLetters(args);
            return call("tells", new String[0]);
        }
        return call(name, args.isEmpty() ? new String[0] : args.split(", "));
    }

    private static long comeLetters(String text) throws Exception {
        long answer = 0;
        for (int i = 0; i < text.length(); i++) {
            answer = call("letter", new String[] {"" + (int) text.charAt(i)});
        }
        return answer;
    }

    private static long call(String name, String[] args) throws Exception {
        Method m = METHODS.get(name);
        if (m == null || m.getParameterCount() != args.length) {
            fault("there is no such call: " + name);
            return 0;
        }
        Object[] numbers = new Object[args.length];
        for (int i = 0; i < args.length; i++) {
            if (m.getParameterTypes()[i] == long.class) {
                numbers[i] = Long.parseLong(args[i]);
            } else {
                numbers[i] = Integer.parseInt(args[i]);
            }
        }
        calls++;
        return ((Number) m.invoke(x, numbers)).longValue();
    }

    /** Each promise has a case, and each refusal that it tells is met in one of its own. */
    private static void lookForGaps() {
        sentence = "";
        for (promise = 1; promise <= PROMISES; promise++) {
            if (!NAMED.contains(promise)) {
                fault("it has no case");
            }
            if (documentIsHere) {
                lookForRefusals();
            }
        }
    }

    private static void lookForRefusals() {
        Matcher face = FACE.matcher(SECTIONS[promise]);
        if (!face.find()) {
            fault("the document doesn't tell its call");
            return;
        }
        Set<Integer> told = new TreeSet<>();
        Matcher refusal = REFUSAL.matcher(SECTIONS[promise].split("## ")[0]);
        while (refusal.find()) {
            told.add(Integer.parseInt(refusal.group(1)));
        }
        for (int number : told) {
            String call = promise + face.group(1);
            if (!MET.contains(call + -number) && !MET.contains(call + (FAR + number))) {
                fault("no case meets its -" + number);
            }
        }
    }
}
