import java.lang.reflect.Field;
import java.lang.reflect.Member;
import java.lang.reflect.Method;
import java.lang.reflect.Modifier;
import java.util.ArrayList;
import java.util.List;
import java.util.Set;
import java.util.TreeSet;

/** The public face: what the document has, and nothing else that is not private. */
public final class FaceTest {
    private static final Set<String> METHODS = Set.of(
        "int grow()", "int axiom(int, int, int, int)", "int drop(int)", "int sub(int, int)",
        "int link(int, int, int)", "int rounds()", "int facts()",
        "int fact(int) throws java.lang.ArrayIndexOutOfBoundsException", "int told(int, int)",
        "int trace(int)", "int row(int)", "int empty(int)", "int same(int)", "int parent(int, int)");
    private static final Due due = new Due();

    public static void main(String[] args) {
        due.sentence("The public face, and nothing else that is not private");
        Class<?> face = ElCompletion.class;
        due.is("public and final", face.getModifiers(), Modifier.PUBLIC | Modifier.FINAL);
        due.is("constructors", face.getDeclaredConstructors().length, 1);
        due.is("public constructors", face.getConstructors().length, 1);
        methods(face);
        constants(face);
        insideClasses(face);
        due.end();
    }

    private static List<Member> open(Member[] members) {
        List<Member> open = new ArrayList<>();
        for (Member m : members) {
            if (!Modifier.isPrivate(m.getModifiers())) {
                open.add(m);
            }
        }
        return open;
    }

    private static void methods(Class<?> face) {
        Set<String> there = new TreeSet<>();
        Set<String> names = new TreeSet<>();
        for (Member m : open(face.getDeclaredMethods())) {
            due.is(m + " is public and nothing more", m.getModifiers(), Modifier.PUBLIC);
            there.add(((Method) m).toGenericString().replaceFirst("^public ", "")
                .replace("ElCompletion.", "").replace(",", ", "));
            names.add(m.getName());
        }
        if (!there.equals(new TreeSet<>(METHODS))) {
            due.report("methods are " + there);
        }
        due.is("names", names.size(), METHODS.size());
        privateNames(face, names);
        for (Class<?> inside : face.getDeclaredClasses()) {
            privateNames(inside, names);
        }
    }

    private static void privateNames(Class<?> where, Set<String> names) {
        for (Method m : where.getDeclaredMethods()) {
            if (Modifier.isPrivate(m.getModifiers()) && names.contains(m.getName())) {
                due.report("a private method bears a public name: " + m);
            }
        }
    }

    private static void constants(Class<?> face) {
        int wanted = Modifier.PUBLIC | Modifier.STATIC | Modifier.FINAL;
        List<Member> open = open(face.getDeclaredFields());
        due.is("fields that are not private", open.size(), 2);
        for (Member m : open) {
            due.is(m.getName(), m.getModifiers(), wanted);
            if (!m.getName().equals("BAD") && !m.getName().equals("FULL") || ((Field) m).getType() != int.class) {
                due.report("no constant of the document: " + m);
            }
        }
    }

    private static void insideClasses(Class<?> face) {
        for (Class<?> inside : face.getDeclaredClasses()) {
            int m = inside.getModifiers();
            due.is(inside + " is static and hidden", Modifier.isStatic(m) && !Modifier.isPublic(m)
                && !Modifier.isProtected(m) ? 1 : 0, 1);
        }
    }
}
