import java.io.IOException;
import java.lang.reflect.Constructor;
import java.lang.reflect.Field;
import java.lang.reflect.Method;
import java.lang.reflect.Modifier;
import java.nio.file.Files;
import java.nio.file.Path;
import java.util.Set;
import java.util.TreeSet;

/** The public face: exactly the document's constructor, methods and constants, and the exceptions they name. */
public final class FaceTest {
    private static final String X = "IndexOutOfBoundsException";
    private static final String A = "IllegalArgumentException";
    private static final String S = "IllegalStateException";
    private static final String[] METHODS = {
        "int cable 4 " + X + A + S, "int demand 4 " + X + A + S, "int sell 5 " + X + A + S, "int cut 2 " + X + A + S,
        "int ship 3 " + X + A + S, "int send 2 " + X + S, "int fill 2 " + X + A + S, "void storm 2 " + A,
        "int pass 1 " + A + S, "int owned 2 " + X, "boolean isWhole 1 " + X, "int way 1 " + X, "int lent 1 " + X,
        "int owes 2 " + X, "int owesAnew 2 " + X, "int account 1 " + X, "int spent 0 ", "int sold 2 " + X,
        "int place 1 " + X, "int worked 1 " + X, "int seal 0 "};

    public static void main(String[] args) throws ReflectiveOperationException, IOException {
        Due due = new Due("FaceTest");
        int modifiers = Cablecourt.class.getModifiers();
        due.is("public and final", Modifier.isPublic(modifiers) && Modifier.isFinal(modifiers), true);
        methods(due);
        Constructor<?>[] constructors = Cablecourt.class.getDeclaredConstructors();
        due.is("constructors", constructors.length, 1);
        due.is("it is public", Modifier.isPublic(constructors[0].getModifiers()), true);
        due.is("it takes nothing", constructors[0].getParameterCount(), 0);
        fields(due);
        for (Class<?> inside : Cablecourt.class.getDeclaredClasses()) {
            int m = inside.getModifiers();
            due.is(inside + " is static", Modifier.isStatic(m), true);
            due.is(inside + " is not of the face", Modifier.isPublic(m) || Modifier.isProtected(m), false);
        }
        due.is("classes in the file", Cablecourt.class.getDeclaredClasses().length <= 11, true);
        questionsLast(due);
        due.end();
    }

    private static void methods(Due due) {
        Set<String> names = new TreeSet<>();
        Set<String> found = new TreeSet<>();
        for (Method m : Cablecourt.class.getDeclaredMethods()) {
            if (Modifier.isPublic(m.getModifiers())) {
                names.add(m.getName());
                found.add(line(m));
                due.is(m + " is not static", Modifier.isStatic(m.getModifiers()), false);
            }
        }
        Set<String> want = new TreeSet<>(Set.of(METHODS));
        due.is("the methods " + found, found.equals(want), true);
        for (Method m : Cablecourt.class.getDeclaredMethods()) {
            if (!Modifier.isPublic(m.getModifiers())) {
                due.is(m + " is private", Modifier.isPrivate(m.getModifiers()), true);
                due.is(m + " bears the name of a public one", names.contains(m.getName()), false);
            }
        }
    }

    private static String line(Method m) {
        StringBuilder text = new StringBuilder();
        text.append(m.getReturnType()).append(' ').append(m.getName()).append(' ').append(m.getParameterCount()).append(' ');
        for (Class<?> e : m.getExceptionTypes()) {
            text.append(e.getSimpleName());
        }
        for (Class<?> p : m.getParameterTypes()) {
            if (p != int.class) {
                text.append(" not an int: ").append(p);
            }
        }
        return text.toString();
    }

    private static void fields(Due due) throws ReflectiveOperationException {
        for (Field f : Cablecourt.class.getDeclaredFields()) {
            int m = f.getModifiers();
            boolean constant = f.getName().equals("NONE");
            due.is(f + " is public", Modifier.isPublic(m), constant);
            due.is(f + " is private", Modifier.isPrivate(m), !constant);
            due.is(f + " is static, then final", Modifier.isStatic(m) && !Modifier.isFinal(m), false);
        }
        Field none = Cablecourt.class.getDeclaredField("NONE");
        due.is("NONE is an int", none.getType() == int.class && Modifier.isStatic(none.getModifiers()), true);
        due.is("NONE", none.getInt(null), -1);
    }

    /** The calls stand in the document's order, and the questions behind the line that names them. */
    private static void questionsLast(Due due) throws IOException {
        due.sentence(0, "Ahead of the calls `owned`, `isWhole`, `way`, `lent`, `owes`, `owesAnew`, `account`, `spent`, `sold`, `place`, `worked`, `seal` the interface says: ---- questions.");
        String text = Files.readString(Path.of("src/main/java/Cablecourt.java"));
        int before = text.indexOf("public Cablecourt()");
        for (String method : METHODS) {
            String name = method.split(" ")[1];
            if (name.equals("owned")) {
                int line = text.indexOf("---- questions");
                due.is("the questions begin behind the calls", line > before, true);
                before = line;
            }
            int at = text.indexOf("public " + method.split(" ")[0] + " " + name + "(");
            due.is(name + " is behind the one before", at > before, true);
            before = at;
        }
    }
}
