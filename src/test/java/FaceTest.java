import java.lang.reflect.Constructor;
import java.lang.reflect.Field;
import java.lang.reflect.Method;
import java.lang.reflect.Modifier;
import java.util.Arrays;
import java.util.Set;
import java.util.TreeSet;

/** The public face, to the letter, and promise 1. */
public final class FaceTest {
    private static final String ILLEGAL = " throws IllegalArgumentException";

    public static void main(String[] args) {
        methods();
        otherMembers();
        newObject();
        Check.end("FaceTest");
    }

    private static void methods() {
        Set<String> due = new TreeSet<>(Arrays.asList(
                "int link(int,int,int)" + ILLEGAL, "int announce(int)" + ILLEGAL, "int renew(int)" + ILLEGAL,
                "int ask(int,int)" + ILLEGAL, "int reboot(int)" + ILLEGAL + ",IllegalStateException",
                "int deliver(int)" + ILLEGAL, "int run(int)" + ILLEGAL, "int drop(int)" + ILLEGAL,
                "boolean copy(int)" + ILLEGAL, "int letter(int,int)" + ILLEGAL, "int way(int,int,int)" + ILLEGAL,
                "int told(int,int,int,int)" + ILLEGAL, "int trace(int,int)" + ILLEGAL, "int cost(int,int)" + ILLEGAL,
                "int total(int)" + ILLEGAL));
        Set<String> got = new TreeSet<>();
        Set<String> publicNames = new TreeSet<>();
        Set<String> privateNames = new TreeSet<>();
        for (Method method : BabelMesh.class.getDeclaredMethods()) {
            if (Modifier.isPrivate(method.getModifiers())) {
                privateNames.add(method.getName());
            } else {
                publicNames.add(method.getName());
                got.add(describe(method));
            }
        }
        Check.same("methods", got.toString(), due.toString());
        privateNames.retainAll(publicNames);
        Check.same("private methods with a public name", privateNames.toString(), "[]");
    }

    private static String describe(Method method) {
        boolean plain = method.getModifiers() == Modifier.PUBLIC;
        String thrown = method.getExceptionTypes().length == 0 ? "" : " throws " + names(method.getExceptionTypes());
        return (plain ? "" : Modifier.toString(method.getModifiers()) + " ") + method.getReturnType().getSimpleName()
                + " " + method.getName() + "(" + names(method.getParameterTypes()) + ")" + thrown;
    }

    private static String names(Class<?>[] types) {
        StringBuilder text = new StringBuilder();
        for (Class<?> type : types) {
            text.append(text.length() == 0 ? "" : ",").append(type.getSimpleName());
        }
        return text.toString();
    }

    private static void otherMembers() {
        Check.same("modifiers", Modifier.toString(BabelMesh.class.getModifiers()), "public final");
        Constructor<?>[] constructors = BabelMesh.class.getDeclaredConstructors();
        Check.same("constructors", constructors.length, 1);
        Check.same("constructor", constructors[0].toString(), "public BabelMesh()");
        for (Field field : BabelMesh.class.getDeclaredFields()) {
            boolean none = field.getName().equals("NONE");
            Check.yes("field " + field.getName(), none || Modifier.isPrivate(field.getModifiers()));
        }
        Check.same("NONE", BabelMesh.NONE, -1);
    }

    private static void newObject() {
        BabelMesh mesh = new BabelMesh();
        for (int what = 0; what <= 4; what++) {
            Check.same("new: total " + what, mesh.total(what), 0);
        }
        for (int a = 0; a < 12; a++) {
            for (int b = 0; b < a; b++) {
                Check.same("new: cost", mesh.cost(a, b), 0);
                Check.same("new: way", Check.way(mesh, a, b), "[-1, -1, -1, -1, -1]");
            }
            Check.same("new: way to itself", mesh.way(a, a, 0), a);
        }
        BabelMesh other = new BabelMesh();
        mesh.link(0, 1, 5);
        mesh.renew(0);
        Check.same("objects do not share letters", other.total(0), 0);
        Check.same("objects do not share links", other.cost(0, 1), 0);
        Check.same("objects do not share numbers", other.way(0, 0, 1), 0);
    }
}
