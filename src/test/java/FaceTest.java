import java.lang.reflect.Constructor;
import java.lang.reflect.Field;
import java.lang.reflect.Method;
import java.lang.reflect.Modifier;
import java.util.Map;
import java.util.Set;
import java.util.TreeMap;
import java.util.TreeSet;

/** The public face is the document's, and nothing else than private stands beside it. */
public final class FaceTest {
    private static final String[] FACE = {
        "int addTown(int) IllegalArgumentException IllegalStateException",
        "int set(int,int) IndexOutOfBoundsException IllegalArgumentException",
        "int put(int,int,int) IndexOutOfBoundsException IllegalStateException",
        "int pull(int,int,int) IndexOutOfBoundsException IllegalStateException",
        "int move(int,int,int,int) IndexOutOfBoundsException IllegalArgumentException IllegalStateException",
        "int trade(int,int) IndexOutOfBoundsException IllegalArgumentException",
        "int turn(int,int) IndexOutOfBoundsException IllegalArgumentException",
        "int file(int,int) IndexOutOfBoundsException",
        "int play(int) IndexOutOfBoundsException",
        "int lend(int,int,int) IndexOutOfBoundsException IllegalArgumentException IllegalStateException",
        "int repay(int,int,int) IndexOutOfBoundsException IllegalArgumentException IllegalStateException",
        "int settle()",
        "int append(int) IllegalArgumentException IllegalStateException",
        "int clearBuffer()",
        "int firstError()",
        "int learn(int) IndexOutOfBoundsException IllegalArgumentException",
        "int undo() IllegalStateException",
        "int town(int,int) IndexOutOfBoundsException IllegalArgumentException",
        "int step(int,int,int) IndexOutOfBoundsException IllegalArgumentException",
        "int wear(int,int) IndexOutOfBoundsException",
        "int debt(int,int) IndexOutOfBoundsException",
        "int count(int) IllegalArgumentException",
        "int setting(int) IndexOutOfBoundsException",
        "int ifPlayed(int,int) IndexOutOfBoundsException IllegalArgumentException",
        "int lastsFor(int) IndexOutOfBoundsException",
        "int bestTurn(int,int) IndexOutOfBoundsException IllegalArgumentException",
        "int bestDrum(int) IndexOutOfBoundsException",
        "int bestTrades(int) IllegalArgumentException",
        "int ring(int) IllegalArgumentException",
        "double tuneShare()",
        "long digest()",
    };

    public static void main(String[] args) {
        Checks checks = new Checks();
        Map<String, String> due = new TreeMap<>();
        for (String line : FACE) {
            due.put(line.substring(line.indexOf(' ') + 1, line.indexOf('(')), line);
        }
        Set<String> privateNames = new TreeSet<>();
        for (Method method : DrumTowns.class.getDeclaredMethods()) {
            if (Modifier.isPrivate(method.getModifiers())) {
                privateNames.add(method.getName());
            } else {
                compare(checks, due, method);
            }
        }
        for (String name : due.keySet()) {
            checks.report("missing: " + due.get(name));
        }
        for (String line : FACE) {
            if (privateNames.contains(line.substring(line.indexOf(' ') + 1, line.indexOf('(')))) {
                checks.report("a private method bears the name in " + line);
            }
        }
        checkFields(checks);
        checkClass(checks);
        checks.end();
    }

    private static void compare(Checks checks, Map<String, String> due, Method method) {
        StringBuilder line = new StringBuilder(method.getReturnType().getName());
        line.append(' ').append(method.getName()).append('(');
        for (Class<?> type : method.getParameterTypes()) {
            line.append(line.charAt(line.length() - 1) == '(' ? "" : ",").append(type.getName());
        }
        line.append(')');
        for (Class<?> type : method.getExceptionTypes()) {
            line.append(' ').append(type.getSimpleName());
        }
        if (method.getModifiers() != Modifier.PUBLIC || !line.toString().equals(due.remove(method.getName()))) {
            checks.report("not in the document's face: " + line);
        }
    }

    private static void checkFields(Checks checks) {
        for (Field field : DrumTowns.class.getDeclaredFields()) {
            boolean isNone = field.getName().equals("NONE")
                    && field.getModifiers() == (Modifier.PUBLIC | Modifier.STATIC | Modifier.FINAL)
                    && field.getType() == int.class;
            if (!isNone && !Modifier.isPrivate(field.getModifiers())) {
                checks.report("a field that is not private: " + field);
            }
            if (Modifier.isStatic(field.getModifiers()) && !Modifier.isFinal(field.getModifiers())) {
                checks.report("a static field that is not final: " + field);
            }
        }
        checks.due("NONE", -1, DrumTowns.NONE);
    }

    private static void checkClass(Checks checks) {
        checks.due("modifiers of the class", Modifier.PUBLIC | Modifier.FINAL, DrumTowns.class.getModifiers());
        Constructor<?>[] constructors = DrumTowns.class.getDeclaredConstructors();
        checks.due("number of constructors", 1, constructors.length);
        checks.due("parameters of the constructor", 0, constructors[0].getParameterCount());
        checks.due("modifiers of the constructor", Modifier.PUBLIC, constructors[0].getModifiers());
        for (Class<?> inside : DrumTowns.class.getDeclaredClasses()) {
            int modifiers = inside.getModifiers();
            if (!Modifier.isStatic(modifiers) || Modifier.isPublic(modifiers) || Modifier.isProtected(modifiers)) {
                checks.report("a class inside that is not private or package-visible and static: " + inside);
            }
        }
    }
}
