import java.lang.reflect.Constructor;
import java.lang.reflect.Field;
import java.lang.reflect.Method;
import java.lang.reflect.Modifier;
import java.util.Set;
import java.util.TreeSet;

/** The public face: the document's members and no others, and rule 1 of LANGUAGE.md. */
public final class FaceTest {
    private static final String[] METHODS = {
        "public int HandleDesk.open(int,int,int,int)",
        "public int HandleDesk.pipe(int)",
        "public int HandleDesk.again(int,int)",
        "public int HandleDesk.close(int,int)",
        "public int HandleDesk.closeAll(int)",
        "public int HandleDesk.left(int)",
        "public int HandleDesk.copy(int,int)",
        "public int HandleDesk.about(int,int,int)",
        "public boolean HandleDesk.move(int,int,int)",
        "public int HandleDesk.put(int,int,int)",
        "public int HandleDesk.take(int,int)",
        "public int HandleDesk.ends(int,int)",
        "public boolean HandleDesk.type(int)",
        "public int HandleDesk.read(boolean)",
        "public int HandleDesk.waiting(int)",
        "public void HandleDesk.show(int)",
        "public int HandleDesk.shown(int)",
        "public int HandleDesk.count()",
    };
    private static final String[] CONSTANTS = {
        "public static final int HandleDesk.NONE",
        "public static final int HandleDesk.BROKEN",
        "public static final int HandleDesk.WAIT",
        "public static final int HandleDesk.END",
    };

    public static void main(String[] args) {
        Due.due("NONE", HandleDesk.NONE, -1);
        Due.due("BROKEN", HandleDesk.BROKEN, -2);
        Due.due("WAIT", HandleDesk.WAIT, -3);
        Due.due("END", HandleDesk.END, -4);
        Due.due("public", Modifier.isPublic(HandleDesk.class.getModifiers()), true);
        Due.due("final", Modifier.isFinal(HandleDesk.class.getModifiers()), true);
        constructors();
        methods();
        fields();
        classesInside();
        Due.finish();
    }

    private static void constructors() {
        Constructor<?>[] all = HandleDesk.class.getDeclaredConstructors();
        Due.due("constructors", all.length, 1);
        Due.due("its form", all[0].toString().equals("public HandleDesk()"), true);
    }

    private static void methods() {
        Set<String> seen = new TreeSet<>();
        Set<String> publicNames = new TreeSet<>();
        for (Method m : HandleDesk.class.getDeclaredMethods()) {
            if (!Modifier.isPrivate(m.getModifiers())) {
                seen.add(m.toString());
                publicNames.add(m.getName());
            }
        }
        sameSet("methods", seen, METHODS);
        for (Method m : HandleDesk.class.getDeclaredMethods()) {
            boolean clashes = Modifier.isPrivate(m.getModifiers()) && publicNames.contains(m.getName());
            Due.due("a private method named " + m.getName(), clashes, false);
        }
    }

    private static void fields() {
        Set<String> seen = new TreeSet<>();
        for (Field f : HandleDesk.class.getDeclaredFields()) {
            if (!Modifier.isPrivate(f.getModifiers())) {
                seen.add(f.toString());
            }
            boolean changes = Modifier.isStatic(f.getModifiers()) && !Modifier.isFinal(f.getModifiers());
            Due.due("static state " + f.getName(), changes, false);
        }
        sameSet("constants", seen, CONSTANTS);
    }

    private static void classesInside() {
        Class<?>[] inside = HandleDesk.class.getDeclaredClasses();
        Due.due("at most twelve classes", inside.length < 12, true);
        for (Class<?> c : inside) {
            int how = c.getModifiers();
            Due.due(c + " can be seen", Modifier.isPublic(how) || Modifier.isProtected(how), false);
            Due.due(c + " is static", Modifier.isStatic(how), true);
            Due.due(c + " and its fields", c.getDeclaredFields().length <= 20, true);
            for (Field f : c.getDeclaredFields()) {
                boolean changes = Modifier.isStatic(f.getModifiers()) && !Modifier.isFinal(f.getModifiers());
                Due.due("static state " + f, changes, false);
            }
        }
    }

    private static void sameSet(String told, Set<String> seen, String[] want) {
        Due.due("number of " + told, seen.size(), want.length);
        for (String w : want) {
            Due.due(w, seen.contains(w), true);
        }
    }
}
