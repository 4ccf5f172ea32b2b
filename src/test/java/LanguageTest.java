import java.lang.reflect.Constructor;
import java.lang.reflect.Field;
import java.lang.reflect.Method;
import java.lang.reflect.Modifier;
import java.nio.file.Files;
import java.nio.file.Path;
import java.util.List;
import java.util.Set;
import java.util.TreeSet;
import java.util.regex.Matcher;
import java.util.regex.Pattern;

/** The face is the document's and no more, and the source keeps to what can be looked at of LANGUAGE.md. */
public final class LanguageTest {
    private static final String[] FACE = {
        "int letter(int)", "int tells()", "int cells(int)", "int ground(int,int)", "int bridge(int,int,int)",
        "int fells(int)", "int post(int,int)", "int sets(int,int,int)", "int train(int,int,int,int)", "int need(int)",
        "int ofBridge(int,int)", "int ofPost(int,int)", "int ofTrain(int,int)", "int height(int)", "int time(int,int)",
        "int sight(int,int,int,int)", "int sees(int,int,int)", "int first(int,int)", "int warned(int,int)", "int safe()",
        "int moved(int)", "int raised(int)", "long freed(int)", "int worst()", "int slowest(int,int)",
        "int atOnce(int,int)", "int most(int,int)", "int nearest(int,int)", "int shadow(int,int,int)", "int alike(int,int)",
        "int steepest(int)", "long down(int,int)", "long mean(int)", "int name(int,int)", "int placeAt(int)",
        "int shelf(int,int,int)", "int lay(int,int)", "int put(int,int,long)", "long look(int,int)", "int taken(int,int)",
        "int whatIs(int,int,int)", "int judge(int,int)", "int lots(int,int,int)", "int image()", "int on()", "int count(int)",
    };
    private static final String[] FORBIDDEN = {
        "throw", "try", "catch", "finally", "synchronized", "assert", "import", "protected", "->", "::", "Exact(",
        "hashCode", "toString", "Object", "Random", "System.out", "System.current", "System.nano", "Integer.MAX", "package ",
    };
    private static final int LONGEST_METHOD = 60;
    private static int wrong = 0;

    private static void need(boolean so, String what) {
        if (!so) {
            wrong++;
            System.out.println(what);
        }
    }

    public static void main(String[] args) throws Exception {
        face();
        classes();
        source(Files.readAllLines(Path.of("src/main/java/SignalsSighted.java")));
        wildCalls();
        System.out.println(wrong == 0 ? "the face and the language are as they must be" : wrong + " faults");
        if (wrong != 0) {
            System.exit(1);
        }
    }

    private static String told(Method m) {
        StringBuilder s = new StringBuilder(m.getReturnType().getName()).append(' ').append(m.getName()).append('(');
        for (int i = 0; i < m.getParameterCount(); i++) {
            s.append(i == 0 ? "" : ",").append(m.getParameterTypes()[i].getName());
        }
        return s.append(')').toString();
    }

    private static void face() {
        Class<?> c = SignalsSighted.class;
        need(Modifier.isPublic(c.getModifiers()) && Modifier.isFinal(c.getModifiers()), "the class is not public and final");
        Set<String> open = new TreeSet<>();
        Set<String> openNames = new TreeSet<>();
        for (Method m : c.getDeclaredMethods()) {
            if (!Modifier.isPrivate(m.getModifiers())) {
                need(Modifier.isPublic(m.getModifiers()) && !Modifier.isStatic(m.getModifiers()), m + " is neither of the face nor private");
                open.add(told(m));
                openNames.add(m.getName());
            }
        }
        need(open.equals(new TreeSet<>(List.of(FACE))), "the face is " + open);
        for (Method m : c.getDeclaredMethods()) {
            need(!Modifier.isPrivate(m.getModifiers()) || !openNames.contains(m.getName()), m + " bears a name of the face");
        }
        for (Field f : c.getDeclaredFields()) {
            need(Modifier.isPrivate(f.getModifiers()), f + " is not private");
        }
        Constructor<?>[] made = c.getDeclaredConstructors();
        need(made.length == 1 && made[0].getParameterCount() == 0 && Modifier.isPublic(made[0].getModifiers()), "the constructor");
    }

    private static void classes() {
        Class<?>[] inside = SignalsSighted.class.getDeclaredClasses();
        need(inside.length <= 12, "too many classes");
        look(SignalsSighted.class);
        for (Class<?> c : inside) {
            need(Modifier.isStatic(c.getModifiers()) && !Modifier.isPublic(c.getModifiers()), c + " is not static and hidden");
            look(c);
        }
    }

    private static void look(Class<?> c) {
        int fields = 0;
        for (Field f : c.getDeclaredFields()) {
            if (Modifier.isStatic(f.getModifiers())) {
                need(Modifier.isFinal(f.getModifiers()), f + " is static and not final");
            } else {
                fields++;
            }
        }
        need(fields <= 20, c + " has too many fields");
        for (Method m : c.getDeclaredMethods()) {
            need(m.getParameterCount() <= 7, m + " takes too much");
        }
    }

    private static void source(List<String> lines) {
        Pattern begin = Pattern.compile("^( {4}| {8})\\S.*\\) \\{$");
        Pattern made = Pattern.compile("\\bnew\\b");
        int began = -1;
        String indent = "";
        boolean constructor = false;
        for (int i = 0; i < lines.size(); i++) {
            String line = lines.get(i);
            String code = line.replaceAll("^\\s*(/\\*\\*|\\*|//).*$", "");
            for (String word : FORBIDDEN) {
                boolean plain = Character.isLetter(word.charAt(0)) && Character.isLetter(word.charAt(word.length() - 1));
                need(!Pattern.compile(plain ? "\\b" + word + "\\b" : Pattern.quote(word)).matcher(code).find(), "line " + (i + 1) + " has " + word);
            }
            Matcher m = begin.matcher(line);
            if (m.matches() && began < 0) {
                began = i;
                indent = m.group(1);
                constructor = line.matches("\\s*(public )?[A-Z]\\w*\\(\\) \\{");
            }
            boolean field = began < 0;
            need(!made.matcher(code).find() || field || constructor, "line " + (i + 1) + " makes an object or row in a call");
            if (began >= 0 && line.equals(indent + "}")) {
                need(i - began < LONGEST_METHOD, "the method at line " + (began + 1) + " is long");
                began = -1;
            }
        }
    }

    /** No call throws, whatever it is given, on an empty line and on a full one. */
    private static void wildCalls() throws Exception {
        long[] odd = {Long.MIN_VALUE, Integer.MIN_VALUE, -1000, -2, -1, 0, 1, 2, 3, 4, 5, 8, 15, 20, 24, 60, 255, Integer.MAX_VALUE, Long.MAX_VALUE};
        for (int full = 0; full < 2; full++) {
            SignalsSighted x = new SignalsSighted();
            for (int i = 0; i < 4 && full == 1; i++) {
                x.bridge(i * 3, 11, 12);
                x.post(i * 4, i);
                x.train(i + 2, 9, 9, i % 2);
                x.shelf(i, i % 2, 20);
            }
            for (Method m : SignalsSighted.class.getDeclaredMethods()) {
                if (Modifier.isPublic(m.getModifiers())) {
                    callAll(x, m, odd, new Object[m.getParameterCount()], 0);
                }
            }
        }
    }

    private static void callAll(SignalsSighted x, Method m, long[] odd, Object[] args, int at) {
        if (at == args.length) {
            try {
                m.invoke(x, args);
            } catch (ReflectiveOperationException e) {
                need(false, m.getName() + List.of(args) + " threw " + e.getCause());
            }
            return;
        }
        for (long v : odd) {
            if (m.getParameterTypes()[at] == int.class) {
                args[at] = (int) v;
            } else {
                args[at] = v;
            }
            callAll(x, m, odd, args, at + 1);
        }
    }
}
