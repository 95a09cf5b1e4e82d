import java.lang.reflect.Constructor;
import java.lang.reflect.Field;
import java.lang.reflect.Method;
import java.lang.reflect.Modifier;
import java.nio.file.Files;
import java.nio.file.Path;
import java.util.Arrays;
import java.util.Set;
import java.util.TreeSet;
import java.util.regex.Matcher;
import java.util.regex.Pattern;

/** The public face of the document, and those rules of LANGUAGE.md that can be read off the class and its text. */
public final class FaceTest {
    private static final Due due = new Due("FaceTest");
    private static final String[] FACE = {
        "int about(int)", "int cell(int, int)", "int chain(int, int)", "int check(int)",
        "boolean graft(int, int)", "int load()", "int node(int, int)", "int plant(int, int)",
        "boolean play(int, int)", "int prune(int)", "int search(int)", "boolean set(int, int, int)",
        "int step(int, int)", "int strategy(int, int)", "boolean turn(int)", "int undo()", "int walk()"};

    public static void main(String[] args) throws Exception {
        constants();
        methods();
        constructors();
        fields();
        nestedClasses();
        words(Files.readString(Path.of("src/main/java/HexTable.java")));
        due.end();
    }

    private static void constants() {
        due.is("NONE", HexTable.NONE, -1);
    }

    private static void methods() {
        Set<String> face = new TreeSet<>();
        Set<String> names = new TreeSet<>();
        Set<String> hidden = new TreeSet<>();
        for (Method m : HexTable.class.getDeclaredMethods()) {
            if (Modifier.isPrivate(m.getModifiers()) || m.isSynthetic()) {
                hidden.add(m.getName());
            } else {
                String types = Arrays.toString(m.getParameterTypes()).replace("[", "(").replace("]", ")");
                face.add(m.getReturnType() + " " + m.getName() + types);
                names.add(m.getName());
                due.is(m + " is public", m.getModifiers(), Modifier.PUBLIC);
            }
        }
        for (Class<?> inside : HexTable.class.getDeclaredClasses()) {
            for (Method m : inside.getDeclaredMethods()) {
                hidden.add(m.getName());
            }
        }
        due.is("methods " + face, face.equals(new TreeSet<>(Arrays.asList(FACE))), true);
        hidden.retainAll(names);
        due.is("names used twice " + hidden, hidden.size(), 0);
    }

    private static void constructors() {
        Constructor<?>[] all = HexTable.class.getDeclaredConstructors();
        due.is("constructors", all.length, 1);
        due.is("is public", all[0].getModifiers(), Modifier.PUBLIC);
        due.is("takes an int", Arrays.equals(all[0].getParameterTypes(), new Class<?>[] {int.class}), true);
        due.is("class", HexTable.class.getModifiers(), Modifier.PUBLIC | Modifier.FINAL);
    }

    private static void fields() {
        int own = 0;
        for (Field f : HexTable.class.getDeclaredFields()) {
            int mods = f.getModifiers();
            due.is(f + " is hidden", Modifier.isPrivate(mods), !f.getName().equals("NONE"));
            if (Modifier.isStatic(mods)) {
                due.is(f + " is final", Modifier.isFinal(mods), true);
            } else {
                own++;
            }
        }
        due.is("fields", own <= 20, true);
    }

    private static void nestedClasses() {
        Class<?>[] inside = HexTable.class.getDeclaredClasses();
        due.is("classes", inside.length < 12, true);
        for (Class<?> c : inside) {
            due.is(c + " is static", Modifier.isStatic(c.getModifiers()), true);
            due.is(c + " is not public", Modifier.isPublic(c.getModifiers()), false);
            int own = 0;
            for (Field f : c.getDeclaredFields()) {
                if (Modifier.isStatic(f.getModifiers())) {
                    due.is(f + " is final", Modifier.isFinal(f.getModifiers()), true);
                } else {
                    own++;
                }
            }
            due.is(c + " fields", own <= 20, true);
            for (Method m : c.getDeclaredMethods()) {
                due.is(m + " parameters", m.getParameterCount() <= 7, true);
            }
        }
    }

    private static void words(String text) {
        String code = text.replaceAll("(?s)/\\*.*?\\*/", " ").replaceAll("//.*", " ");
        String[] banned = {"\\bthrow", "\\btry\\b", "\\bcatch\\b", "\\bsynchronized\\b", "\\bassert\\b", "->", "::",
            "Exact\\b", "\\bpackage\\b", "\\bObject\\b", "\\bdouble\\b", "\\bfloat\\b", "\\bSystem\\.(?!arraycopy)",
            "\\bMath\\.(?!min|max)", "\\bArrays\\.(?!copyOf\\(|copyOfRange|fill)", "\\bimport (?!java\\.util\\.Arrays;)",
            "\\bRandom\\b", "\\bThread\\b", "\\[\\]\\[\\]", "\\bstatic\\s*\\{", "\"", "[^\\x00-\\x7f]"};
        for (String word : banned) {
            Matcher m = Pattern.compile(word).matcher(code);
            due.is("text has " + word, m.find(), false);
        }
    }
}
