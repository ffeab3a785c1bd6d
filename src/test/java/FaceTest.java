import java.lang.reflect.Constructor;
import java.lang.reflect.Field;
import java.lang.reflect.Method;
import java.lang.reflect.Modifier;
import java.util.Map;
import java.util.TreeMap;

/** The public face: what the document names, and nothing else that can be seen. */
public final class FaceTest {
    private static final String[] FACE = {
        "int unit(int, int) IllegalArgumentException UnsupportedOperationException",
        "int place(int, int, int, int) IllegalArgumentException UnsupportedOperationException",
        "void weight(int, int) IllegalArgumentException",
        "void fits(int, int, boolean) NoSuchElementException",
        "void cost(int, int, int) NoSuchElementException IllegalArgumentException",
        "int together(int, int) NoSuchElementException IllegalStateException",
        "void fix(int, int) NoSuchElementException IllegalStateException",
        "void limits(int, int) IllegalArgumentException",
        "int assign(int) IllegalArgumentException",
        "int at(int) NoSuchElementException",
        "boolean exact()",
        "int bound()",
        "int barred(int) NoSuchElementException IllegalStateException",
        "int put(int) NoSuchElementException IllegalStateException",
        "int block(int) NoSuchElementException IllegalStateException",
        "void open(int) NoSuchElementException IllegalStateException",
        "int share(int) NoSuchElementException IllegalStateException ArithmeticException",
        "int trip(int) NoSuchElementException",
        "int told(int, int) NoSuchElementException IllegalArgumentException",
        "int count(int)",
    };

    private static final Check check = new Check("FaceTest");

    public static void main(String[] args) {
        check.sentence("The public face", "public final class PutAwayAssign");
        check.due("the class", Modifier.toString(PutAwayAssign.class.getModifiers()), "public final");
        constructors();
        methods();
        for (Field field : PutAwayAssign.class.getDeclaredFields()) {
            check.due("private " + field.getName(), Modifier.isPrivate(field.getModifiers()), true);
        }
        check.end();
    }

    private static void constructors() {
        Constructor<?>[] all = PutAwayAssign.class.getDeclaredConstructors();
        check.due("constructors", all.length, 1);
        check.due("the constructor", all[0].toString(), "public PutAwayAssign()");
    }

    private static void methods() {
        Map<String, String> seen = new TreeMap<>();
        for (Method method : PutAwayAssign.class.getDeclaredMethods()) {
            if (!Modifier.isPrivate(method.getModifiers())) {
                seen.put(method.getName(), described(method));
            }
        }
        check.due("visible methods", seen.size(), FACE.length);
        for (String line : FACE) {
            String name = line.substring(line.indexOf(' ') + 1, line.indexOf('('));
            check.due(name, String.valueOf(seen.get(name)), line);
        }
        for (Method method : PutAwayAssign.class.getDeclaredMethods()) {
            boolean hidden = Modifier.isPrivate(method.getModifiers());
            check.due("private " + method.getName(), hidden && seen.containsKey(method.getName()), false);
        }
    }

    private static String described(Method method) {
        StringBuilder text = new StringBuilder(method.getReturnType().getSimpleName());
        text.append(' ').append(method.getName()).append('(');
        Class<?>[] given = method.getParameterTypes();
        for (int i = 0; i < given.length; i++) {
            text.append(i == 0 ? "" : ", ").append(given[i].getSimpleName());
        }
        text.append(')');
        for (Class<?> thrown : method.getExceptionTypes()) {
            text.append(' ').append(thrown.getSimpleName());
        }
        return text.toString();
    }
}
