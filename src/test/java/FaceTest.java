import java.io.IOException;
import java.lang.reflect.Constructor;
import java.lang.reflect.Field;
import java.lang.reflect.Method;
import java.lang.reflect.Modifier;
import java.nio.file.Files;
import java.nio.file.Path;
import java.util.ArrayList;
import java.util.List;
import java.util.Map;
import java.util.Set;
import java.util.TreeMap;
import java.util.TreeSet;
import java.util.regex.Matcher;
import java.util.regex.Pattern;

/** The face is the document's and no more; the source keeps to what LANGUAGE.md leaves. */
final class FaceTest {
    private static final Pattern CALL = Pattern.compile("public (\\w+ )?(\\w+)\\((.*?)\\)(?: throws (.*))?;");
    /** A method or constructor of the source: its head, and its body up to the brace below its first sign. */
    private static final Pattern METHOD = Pattern.compile(
        "(?m)^( {4}| {8})(?:[\\w\\[\\]]+ )*(\\w+)\\([^;{}()]*\\)[^;{}()]*\\{\\n((?s:.*?))^\\1\\}$");
    private static final int MOST_LINES = 60;
    private static final int MOST_DEEP = 8;
    private static final int MOST_FIELDS = 20;
    private static final int MOST_PARAMETERS = 7;

    /** The names of the document's calls. */
    private static final Set<String> NAMES = new TreeSet<>();

    public static void main(String[] args) throws IOException {
        face();
        members();
        words();
        methods();
        Due.finish();
    }

    private static void face() throws IOException {
        Set<String> due = documentFace();
        Set<String> got = new TreeSet<>();
        for (Method m : MoveList.class.getDeclaredMethods()) {
            if (Modifier.isPublic(m.getModifiers())) {
                got.add(signature(m));
            }
        }
        Due.answer("the document's calls", due.size(), 17);
        Due.answer("the public methods", String.join("; ", got), String.join("; ", due));
        Due.answer("the class is public and final",
            Modifier.isPublic(MoveList.class.getModifiers()) && Modifier.isFinal(MoveList.class.getModifiers()), true);
        Constructor<?>[] constructors = MoveList.class.getDeclaredConstructors();
        Due.answer("constructors", constructors.length, 1);
        Due.answer("the constructor is public", Modifier.isPublic(constructors[0].getModifiers()), true);
        Due.answer("the constructor takes nothing", constructors[0].getParameterCount(), 0);
    }

    /** The methods of the document's face, written as signature writes them. */
    private static Set<String> documentFace() throws IOException {
        String text = Files.readString(Path.of("../shared/DOC.md"));
        Matcher call = CALL.matcher(text.substring(0, text.indexOf("## Terms")));
        Set<String> face = new TreeSet<>();
        while (call.find()) {
            if (call.group(1) == null) {
                Due.answer("the document's constructor", call.group(2), "MoveList");
                continue;
            }
            NAMES.add(call.group(2));
            String types = call.group(3).replaceAll("(\\w+) \\w+", "$1");
            String thrown = call.group(4) == null ? "" : " " + call.group(4).replace(",", "");
            face.add(call.group(1) + call.group(2) + "(" + types + ")" + thrown);
        }
        return face;
    }

    private static String signature(Method m) {
        StringBuilder b = new StringBuilder();
        b.append(m.getReturnType().getName()).append(' ').append(m.getName()).append('(');
        String comma = "";
        for (Class<?> p : m.getParameterTypes()) {
            b.append(comma).append(p.getName());
            comma = ", ";
        }
        b.append(')');
        for (Class<?> e : m.getExceptionTypes()) {
            b.append(' ').append(e.getSimpleName());
        }
        return b.toString();
    }

    private static void members() {
        for (Method m : MoveList.class.getDeclaredMethods()) {
            if (!Modifier.isPublic(m.getModifiers())) {
                Due.answer(m.getName() + " is private", Modifier.isPrivate(m.getModifiers()), true);
                Due.answer(m.getName() + " has a name of its own", NAMES.contains(m.getName()), false);
            }
        }
        for (Field f : MoveList.class.getDeclaredFields()) {
            boolean none = f.getName().equals("NONE");
            Due.answer(f.getName() + " is public", Modifier.isPublic(f.getModifiers()), none);
            Due.answer(f.getName() + " is private", Modifier.isPrivate(f.getModifiers()), !none);
            checkStatic(f);
        }
        Class<?>[] inside = MoveList.class.getDeclaredClasses();
        Due.answer("classes inside are some twelve", inside.length <= 12, true);
        for (Class<?> c : inside) {
            Due.answer(c + " is static", Modifier.isStatic(c.getModifiers()), true);
            Due.answer(c + " is not public", Modifier.isPublic(c.getModifiers()), false);
            for (Field f : c.getDeclaredFields()) {
                checkStatic(f);
            }
            for (Method m : c.getDeclaredMethods()) {
                Due.answer(m + " has a name of its own", NAMES.contains(m.getName()), false);
            }
            sizes(c);
        }
        sizes(MoveList.class);
    }

    private static void sizes(Class<?> c) {
        int fields = 0;
        for (Field f : c.getDeclaredFields()) {
            fields += Modifier.isStatic(f.getModifiers()) ? 0 : 1;
        }
        Due.answer(c + " has some twenty fields at the most", fields <= MOST_FIELDS, true);
        for (Method m : c.getDeclaredMethods()) {
            Due.answer(m + " takes seven parameters at the most", m.getParameterCount() <= MOST_PARAMETERS, true);
        }
    }

    private static void checkStatic(Field f) {
        if (Modifier.isStatic(f.getModifiers())) {
            Due.answer(f.getName() + " is final", Modifier.isFinal(f.getModifiers()), true);
        }
    }

    /** The source without comments: none of the words that the rules rule out. */
    private static String source() throws IOException {
        String text = Files.readString(Path.of("src/main/java/MoveList.java"));
        return text.replaceAll("(?s)/\\*.*?\\*/", "").replaceAll("//[^\n]*", "");
    }

    private static void words() throws IOException {
        String text = source();
        String[] out = {"\\bimport\\b", "\\bpackage\\b", "\\btry\\b", "\\bcatch\\b", "\\bfinally\\b", "->", "::",
            "\\bsynchronized\\b", "\\bassert\\b", "\\bprotected\\b", "Exact\\b", "\\bSystem\\b", "\\bThread\\b",
            "\\bdouble\\b", "\\bfloat\\b", "\\bObject\\b", "\\binstanceof\\b", "\\bnative\\b", "\\bvar\\b"};
        for (String word : out) {
            Due.answer("the source has " + word, Pattern.compile(word).matcher(text).find(), false);
        }
        Matcher library = Pattern.compile("\\b(Math|Long|Integer|Arrays|String)\\.(\\w+)").matcher(text);
        while (library.find()) {
            Due.answer(library.group() + " is in the library", library.group().equals("Long.bitCount"), true);
        }
        Matcher thrown = Pattern.compile("\\bthrow\\b\\s*(new \\w+\\(\"[^\"]*\"\\);)?").matcher(text);
        while (thrown.find()) {
            Due.answer(thrown.group() + " is written out", thrown.group(1) != null, true);
        }
    }

    /** How long the methods are, and how deep their calls go. */
    private static void methods() throws IOException {
        Map<String, String> bodies = new TreeMap<>();
        Matcher method = METHOD.matcher(source());
        while (method.find()) {
            String name = method.group(2);
            Due.answer(name + " has some sixty lines at the most", method.group().lines().count() <= MOST_LINES, true);
            bodies.merge(name, method.group(3), String::concat);
        }
        Due.answer("the methods that were read", bodies.keySet().toString(), declared().toString());
        for (String name : NAMES) {
            int deep = deep(name, bodies, new TreeSet<>());
            Due.answer(name + ": calls go at most eight deep (" + deep + ")", deep <= MOST_DEEP, true);
        }
    }

    /** The names of all methods and constructors of the class and of those inside it. */
    private static Set<String> declared() {
        List<Class<?>> classes = new ArrayList<>(List.of(MoveList.class.getDeclaredClasses()));
        classes.add(MoveList.class);
        Set<String> names = new TreeSet<>();
        for (Class<?> c : classes) {
            for (Method m : c.getDeclaredMethods()) {
                names.add(m.getName());
            }
            names.add(c.getSimpleName());
        }
        // It holds nothing of its own, so that no constructor is written.
        names.remove("Attacks");
        return names;
    }

    /** The longest chain of calls from a method, by the names in its body; one that calls itself counts twice. */
    private static int deep(String name, Map<String, String> bodies, Set<String> open) {
        int below = 0;
        int self = 0;
        open.add(name);
        Matcher call = Pattern.compile("\\b(\\w+)\\(").matcher(bodies.get(name));
        while (call.find()) {
            String called = call.group(1);
            if (called.equals(name)) {
                self = 1;
            } else if (bodies.containsKey(called) && !open.contains(called)) {
                below = Math.max(below, deep(called, bodies, open));
            }
        }
        open.remove(name);
        return 1 + self + below;
    }
}
