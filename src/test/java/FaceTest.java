import java.io.IOException;
import java.lang.reflect.Constructor;
import java.lang.reflect.Field;
import java.lang.reflect.Method;
import java.lang.reflect.Modifier;
import java.nio.file.Files;
import java.nio.file.Path;
import java.util.Arrays;
import java.util.Set;
import java.util.TreeSet;
import java.util.regex.Matcher;
import java.util.regex.Pattern;

/** The face is the document's and no more; the source keeps to what LANGUAGE.md leaves. */
final class FaceTest {
    private static final String[] FACE = {
        "boolean check() IllegalStateException",
        "boolean playable()",
        "int at(int)",
        "int count() IllegalStateException",
        "int kind(int) IllegalStateException IllegalArgumentException",
        "int look(int)",
        "int make(int) IllegalStateException IllegalArgumentException UnsupportedOperationException",
        "int move(int) IllegalStateException IndexOutOfBoundsException",
        "int on(int, boolean) IllegalStateException",
        "int place(int) IllegalStateException",
        "int unmake()",
        "long lines(int) IllegalStateException IllegalArgumentException",
        "long pinned() IllegalStateException",
        "void begin()",
        "void clear()",
        "void put(int, int) IndexOutOfBoundsException IllegalArgumentException",
        "void state(int, int, int) IllegalArgumentException",
    };

    public static void main(String[] args) throws IOException {
        face();
        members();
        words();
        methodLengths();
        Due.finish();
    }

    private static void face() {
        Set<String> due = new TreeSet<>(Arrays.asList(FACE));
        Set<String> got = new TreeSet<>();
        for (Method m : MoveList.class.getDeclaredMethods()) {
            if (Modifier.isPublic(m.getModifiers())) {
                got.add(signature(m));
            }
        }
        if (!got.equals(due)) {
            System.out.println("the face is " + got);
        }
        Due.answer("the public methods are the document's", got.equals(due), true);
        Due.answer("the class is public and final",
            Modifier.isPublic(MoveList.class.getModifiers()) && Modifier.isFinal(MoveList.class.getModifiers()), true);
        Constructor<?>[] constructors = MoveList.class.getDeclaredConstructors();
        Due.answer("constructors", constructors.length, 1);
        Due.answer("the constructor is public", Modifier.isPublic(constructors[0].getModifiers()), true);
        Due.answer("the constructor takes nothing", constructors[0].getParameterCount(), 0);
    }

    private static String signature(Method m) {
        StringBuilder b = new StringBuilder();
        b.append(m.getReturnType().getName()).append(' ').append(m.getName()).append('(');
        String comma = "";
        for (Class<?> p : m.getParameterTypes()) {
            b.append(comma).append(p.getName());
            comma = ", ";
        }
        b.append(')');
        for (Class<?> e : m.getExceptionTypes()) {
            b.append(' ').append(e.getSimpleName());
        }
        return b.toString();
    }

    private static void members() {
        Set<String> names = new TreeSet<>();
        for (String f : FACE) {
            names.add(f.substring(f.indexOf(' ') + 1, f.indexOf('(')));
        }
        for (Method m : MoveList.class.getDeclaredMethods()) {
            if (!Modifier.isPublic(m.getModifiers())) {
                Due.answer(m.getName() + " is private", Modifier.isPrivate(m.getModifiers()), true);
                Due.answer(m.getName() + " has a name of its own", names.contains(m.getName()), false);
            }
        }
        for (Field f : MoveList.class.getDeclaredFields()) {
            boolean none = f.getName().equals("NONE");
            Due.answer(f.getName() + " is public", Modifier.isPublic(f.getModifiers()), none);
            Due.answer(f.getName() + " is private", Modifier.isPrivate(f.getModifiers()), !none);
            checkStatic(f);
        }
        Class<?>[] inside = MoveList.class.getDeclaredClasses();
        Due.answer("classes inside are some twelve", inside.length <= 12, true);
        for (Class<?> c : inside) {
            Due.answer(c + " is static", Modifier.isStatic(c.getModifiers()), true);
            Due.answer(c + " is not public", Modifier.isPublic(c.getModifiers()), false);
            for (Field f : c.getDeclaredFields()) {
                checkStatic(f);
            }
        }
    }

    private static void checkStatic(Field f) {
        if (Modifier.isStatic(f.getModifiers())) {
            Due.answer(f.getName() + " is final", Modifier.isFinal(f.getModifiers()), true);
        }
    }

    /** The source without comments: none of the words that the rules rule out. */
    private static String source() throws IOException {
        String text = Files.readString(Path.of("src/main/java/MoveList.java"));
        return text.replaceAll("(?s)/\\*.*?\\*/", "").replaceAll("//[^\n]*", "");
    }

    private static void words() throws IOException {
        String text = source();
        String[] out = {"\\bimport\\b", "\\bpackage\\b", "\\btry\\b", "\\bcatch\\b", "\\bfinally\\b", "->", "::",
            "\\bsynchronized\\b", "\\bassert\\b", "\\bprotected\\b", "Exact\\b", "\\bSystem\\b", "\\bThread\\b",
            "\\bdouble\\b", "\\bfloat\\b", "\\bObject\\b", "\\binstanceof\\b", "\\bnative\\b", "\\bvar\\b"};
        for (String word : out) {
            Due.answer("the source has " + word, Pattern.compile(word).matcher(text).find(), false);
        }
        Matcher library = Pattern.compile("\\b(Math|Long|Integer|Arrays|String)\\.(\\w+)").matcher(text);
        while (library.find()) {
            Due.answer(library.group() + " is in the library", library.group().equals("Long.bitCount"), true);
        }
        Matcher thrown = Pattern.compile("\\bthrow\\b\\s*(new \\w+\\(\"[^\"]*\"\\);)?").matcher(text);
        while (thrown.find()) {
            Due.answer(thrown.group() + " is written out", thrown.group(1) != null, true);
        }
    }

    private static void methodLengths() throws IOException {
        int start = -1;
        String[] lines = source().split("\n", -1);
        for (int i = 0; i < lines.length; i++) {
            boolean opens = lines[i].matches(" {4}( {4})?\\S.*\\{") && !lines[i].contains(" class ");
            if (opens) {
                start = i;
            } else if (start >= 0 && lines[i].matches(" {4}( {4})?\\}") && lines[i].indexOf('}') == indent(lines[start])) {
                Due.answer("line " + (start + 1) + ": some sixty lines at the most", i - start < 60, true);
                start = -1;
            }
        }
    }

    private static int indent(String line) {
        return line.length() - line.stripLeading().length();
    }
}
