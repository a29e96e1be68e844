import java.lang.reflect.Constructor;
import java.lang.reflect.Field;
import java.lang.reflect.Method;
import java.lang.reflect.Modifier;
import java.util.ArrayList;
import java.util.Collections;
import java.util.List;

/** The public face is that of the document, and nothing else is to be seen from outside. */
public final class FaceTest {
    private static final String[] METHODS = {
        "boolean fault(int, boolean) IndexOutOfBoundsException",
        "boolean good(int, boolean) IndexOutOfBoundsException",
        "int account(int) IndexOutOfBoundsException",
        "int bill(int) IndexOutOfBoundsException",
        "int billAnew(int) IndexOutOfBoundsException",
        "int book(int, int, int, int) IndexOutOfBoundsException IllegalArgumentException IllegalStateException",
        "int car(int, int, int) IllegalArgumentException IllegalStateException",
        "int card(int, int) IndexOutOfBoundsException IllegalArgumentException IllegalStateException",
        "int charge(int) IndexOutOfBoundsException",
        "int dispute(int, int) IndexOutOfBoundsException IllegalArgumentException IllegalStateException",
        "int link(int, boolean) IndexOutOfBoundsException",
        "int of(int, int) IndexOutOfBoundsException IllegalArgumentException",
        "int overloads()",
        "int owes(int) IndexOutOfBoundsException",
        "int pass(int) IllegalArgumentException IllegalStateException",
        "int plug(int, int, int) IndexOutOfBoundsException IllegalStateException",
        "int power(int) IndexOutOfBoundsException",
        "int powerAnew(int) IndexOutOfBoundsException",
        "int set(int, int) IllegalArgumentException",
        "int socket(int, int) IndexOutOfBoundsException IllegalArgumentException IllegalStateException",
        "int unplug(int) IndexOutOfBoundsException IllegalStateException",
        "void tariff(int, int, int, int, int) IndexOutOfBoundsException IllegalArgumentException",
    };

    private static final Check CHECK = new Check("FaceTest");

    public static void main(String[] args) {
        constants();
        members();
        namesOfMethods();
        CHECK.end();
    }

    private static void constants() {
        CHECK.due("FAULT", ChargeYard.FAULT, -1);
        CHECK.due("TAKEN", ChargeYard.TAKEN, -2);
        CHECK.due("CARD", ChargeYard.CARD, -3);
        CHECK.due("BOOKED", ChargeYard.BOOKED, -4);
        CHECK.due("AWAY", ChargeYard.AWAY, -5);
    }

    private static void members() {
        int modifiers = ChargeYard.class.getModifiers();
        CHECK.due("public final class", Modifier.isPublic(modifiers) && Modifier.isFinal(modifiers), true);
        List<String> seen = new ArrayList<>();
        for (Method method : ChargeYard.class.getDeclaredMethods()) {
            if (!Modifier.isPrivate(method.getModifiers())) {
                CHECK.due("public " + method.getName(), Modifier.isPublic(method.getModifiers()), true);
                seen.add(lineOf(method));
            }
        }
        Collections.sort(seen);
        CHECK.due("the methods", seen.toString(), List.of(METHODS).toString());
        int constants = 0;
        for (Field field : ChargeYard.class.getDeclaredFields()) {
            if (!Modifier.isPrivate(field.getModifiers())) {
                constants++;
            }
        }
        CHECK.due("constants", constants, 5);
        Constructor<?>[] made = ChargeYard.class.getDeclaredConstructors();
        CHECK.due("constructors", made.length, 1);
        CHECK.due("public constructor", Modifier.isPublic(made[0].getModifiers()), true);
    }

    private static String lineOf(Method method) {
        StringBuilder line = new StringBuilder();
        line.append(method.getReturnType()).append(' ').append(method.getName()).append('(');
        String between = "";
        for (Class<?> type : method.getParameterTypes()) {
            line.append(between).append(type);
            between = ", ";
        }
        line.append(')');
        for (Class<?> type : method.getExceptionTypes()) {
            line.append(' ').append(type.getSimpleName());
        }
        return line.toString();
    }

    private static void namesOfMethods() {
        String face = List.of(METHODS).toString();
        List<Class<?>> classes = new ArrayList<>(List.of(ChargeYard.class.getDeclaredClasses()));
        classes.add(ChargeYard.class);
        CHECK.due("at most twelve classes", classes.size() <= 12, true);
        for (Class<?> one : classes) {
            for (Method method : one.getDeclaredMethods()) {
                boolean isOfFace = Modifier.isPublic(method.getModifiers());
                boolean isNamedSo = face.contains(" " + method.getName() + "(");
                CHECK.due("a method of its own named " + method.getName(), isNamedSo && !isOfFace, false);
            }
        }
    }
}
