import java.lang.reflect.Constructor;
import java.lang.reflect.Field;
import java.lang.reflect.Method;
import java.lang.reflect.Modifier;
import java.util.Arrays;
import java.util.TreeSet;

/** The public face is the document's, and no member of the class beside it can be seen from outside. */
public final class FaceTest {
    private static int wrong = 0;

    private static final String[] FACE = {
        "public static final int SpanRows.NONE",
        "public SpanRows()",
        "public int SpanRows.name()",
        "public boolean SpanRows.span(int,long,long)",
        "public boolean SpanRows.give(int,long)",
        "public boolean SpanRows.equal(int,int)",
        "public int SpanRows.put(int,long)",
        "public int SpanRows.keep(int,long)",
        "public int SpanRows.label()",
        "public long SpanRows.way(int,int)",
        "public boolean SpanRows.take(int)",
        "public int SpanRows.mark()",
        "public int SpanRows.back()",
        "public int SpanRows.about(int,int)",
        "public long SpanRows.bound(int,boolean)",
        "public int SpanRows.kept(int,int)",
        "public int SpanRows.count(int)",
    };

    private static void check(boolean holds, String what) {
        if (!holds) {
            wrong++;
            System.out.println(what);
        }
    }

    public static void main(String[] args) {
        TreeSet<String> found = new TreeSet<>();
        for (Field f : SpanRows.class.getDeclaredFields()) {
            note(found, f.getModifiers(), f.toString());
            check(!Modifier.isStatic(f.getModifiers()) || Modifier.isFinal(f.getModifiers()),
                "a static field is not final: " + f);
        }
        for (Constructor<?> c : SpanRows.class.getDeclaredConstructors()) {
            note(found, c.getModifiers(), c.toString());
        }
        TreeSet<String> publicNames = new TreeSet<>();
        for (Method m : SpanRows.class.getDeclaredMethods()) {
            note(found, m.getModifiers(), m.toString());
            if (Modifier.isPublic(m.getModifiers())) {
                publicNames.add(m.getName());
            }
        }
        for (Method m : SpanRows.class.getDeclaredMethods()) {
            check(!Modifier.isPrivate(m.getModifiers()) || !publicNames.contains(m.getName()),
                "a private method bears a public name: " + m);
        }
        TreeSet<String> due = new TreeSet<>(Arrays.asList(FACE));
        check(found.equals(due), "the face is " + found + ", due is " + due);
        int modifiers = SpanRows.class.getModifiers();
        check(Modifier.isPublic(modifiers) && Modifier.isFinal(modifiers), "the class is not public and final");
        check(SpanRows.NONE == -1, "NONE is not -1");
        System.out.println(wrong == 0 ? "the face is as due" : wrong + " faults of the face");
        if (wrong != 0) {
            System.exit(1);
        }
    }

    private static void note(TreeSet<String> found, int modifiers, String member) {
        if (!Modifier.isPrivate(modifiers)) {
            found.add(member);
        }
    }
}
