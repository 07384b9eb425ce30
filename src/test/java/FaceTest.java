import java.lang.reflect.Constructor;
import java.lang.reflect.Field;
import java.lang.reflect.Method;
import java.lang.reflect.Modifier;
import java.util.Arrays;
import java.util.Set;
import java.util.TreeSet;

/** The face of the class: every constant, constructor and method of the document, and nothing else that can be seen. */
public final class FaceTest {
    private static final String[] FACE = {
        "int feed(int,int,int,int,int)",
        "int studio(int) IllegalArgumentException",
        "int law(int) IllegalArgumentException",
        "int work(int) IllegalArgumentException",
        "int book(int) IllegalArgumentException",
        "int fault()",
        "int undo()",
        "int told(int) IllegalArgumentException",
        "int seat(int,int) NoSuchElementException IllegalArgumentException",
        "int sitter(int,int) NoSuchElementException IllegalArgumentException",
        "int plate(int,int) NoSuchElementException",
        "int sitting(int) NoSuchElementException",
        "int mark(int) NoSuchElementException",
        "int would(int,int,int,int,int,int,int,int) IllegalArgumentException",
        "int share(int,int,int) NoSuchElementException IllegalArgumentException",
        "int ahead(int,int) IllegalArgumentException",
        "int when(int) NoSuchElementException",
        "int meals(int,int) NoSuchElementException IllegalArgumentException",
        "int goings(int,int) NoSuchElementException IllegalArgumentException",
        "int bright(int) NoSuchElementException",
        "int places()",
        "int placed(int) NoSuchElementException",
        "int packing()",
        "int packed(int) NoSuchElementException",
        "long well(int,int,int) IllegalArgumentException",
        "int getsUp(int,int,int,int) IllegalArgumentException",
        "int food(int,int,int) NoSuchElementException IllegalArgumentException",
        "int darkest(int) IllegalArgumentException",
        "int stillest(int) IllegalArgumentException",
        "int stains(int) IllegalArgumentException",
        "int hungriest(int) IllegalArgumentException",
        "int brightest(int) IllegalArgumentException",
        "int empty(int) IllegalArgumentException",
        "int rising(int) NoSuchElementException",
        "int gains(int,int) NoSuchElementException",
        "int absent()",
        "int crowd(int) NoSuchElementException",
        "int need(int) IllegalArgumentException",
        "int lead(int) NoSuchElementException",
        "int season(int,int,int,int) IllegalArgumentException",
        "int span(int,int,int,int,int) IllegalArgumentException",
        "int image()",
        "int restore()",
        "int status(int)",
        "int count(int)",
    };

    public static void main(String[] args) {
        Checks.due("NONE", StillYear.NONE, -1);
        Checks.due("public and final", StillYear.class.getModifiers(), Modifier.PUBLIC | Modifier.FINAL);
        methods();
        fields();
        constructors();
        inside();
        Checks.end("FaceTest");
    }

    private static void methods() {
        Set<String> wanted = new TreeSet<>(Arrays.asList(FACE));
        Set<String> names = new TreeSet<>();
        Set<String> hidden = new TreeSet<>();
        for (Method m : StillYear.class.getDeclaredMethods()) {
            if (Modifier.isPrivate(m.getModifiers())) {
                hidden.add(m.getName());
            } else {
                names.add(m.getName());
                if (!wanted.remove(told(m)) || m.getModifiers() != Modifier.PUBLIC) {
                    Checks.wrong("not in the face: " + told(m));
                }
            }
        }
        for (String missing : wanted) {
            Checks.wrong("missing: " + missing);
        }
        hidden.retainAll(names);
        Checks.due("private methods with a public name " + hidden, hidden.size(), 0);
    }

    private static String told(Method m) {
        StringBuilder text = new StringBuilder(m.getReturnType().getSimpleName() + " " + m.getName() + "(");
        String comma = "";
        for (Class<?> p : m.getParameterTypes()) {
            text.append(comma).append(p.getSimpleName());
            comma = ",";
        }
        text.append(")");
        for (Class<?> e : m.getExceptionTypes()) {
            text.append(" ").append(e.getSimpleName());
        }
        return text.toString();
    }

    private static void fields() {
        for (Field f : StillYear.class.getDeclaredFields()) {
            if (!Modifier.isPrivate(f.getModifiers()) && !f.getName().equals("NONE")) {
                Checks.wrong("a field that can be seen: " + f.getName());
            }
        }
    }

    private static void constructors() {
        Constructor<?>[] all = StillYear.class.getDeclaredConstructors();
        Checks.due("constructors", all.length, 1);
        Checks.due("without arguments", all[0].getParameterCount(), 0);
        Checks.due("public", all[0].getModifiers(), Modifier.PUBLIC);
    }

    private static void inside() {
        Class<?>[] all = StillYear.class.getDeclaredClasses();
        Checks.due("at most some twelve classes", all.length <= 11 ? 1 : 0, 1);
        for (Class<?> c : all) {
            Checks.due(c + " is static", c.getModifiers() & Modifier.STATIC, Modifier.STATIC);
            Checks.due(c + " is not public", c.getModifiers() & (Modifier.PUBLIC | Modifier.PROTECTED), 0);
            int fields = 0;
            for (Field f : c.getDeclaredFields()) {
                fields += Modifier.isStatic(f.getModifiers()) ? 0 : 1;
            }
            Checks.due(c + " has at most some twenty fields", fields <= 20 ? 1 : 0, 1);
            for (Method m : c.getDeclaredMethods()) {
                Checks.due(told(m) + " has at most seven parameters", m.getParameterCount() <= 7 ? 1 : 0, 1);
            }
        }
    }
}
