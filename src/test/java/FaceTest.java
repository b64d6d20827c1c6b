import java.lang.reflect.Constructor;
import java.lang.reflect.Field;
import java.lang.reflect.Method;
import java.lang.reflect.Modifier;
import java.util.Arrays;
import java.util.Set;
import java.util.TreeSet;

/** The public face of the document: these methods and one constructor, and nothing else that others can see. */
public final class FaceTest {
    private static final String INDEX = " IndexOutOfBoundsException";
    private static final String ARGUMENT = " IllegalArgumentException";
    private static final String STATE = " IllegalStateException";
    private static final String[] FACE = {
        "int addRow(int,int,int)" + ARGUMENT + STATE,
        "boolean toggleBlocked(int,int)" + INDEX + STATE,
        "int rows()",
        "int state(int,int)" + INDEX,
        "int ticketAt(int,int)" + INDEX,
        "int value(int,int)" + INDEX,
        "int freeSeats(int)" + INDEX,
        "int orphans()",
        "int longestBlock()",
        "int bestBlock(int)" + ARGUMENT + STATE,
        "boolean leavesOrphan(int)" + ARGUMENT + STATE,
        "int hold(int,int)" + ARGUMENT + STATE,
        "int holdAt(int,int,int,int)" + INDEX + ARGUMENT + STATE,
        "int rowsForGroup(int)" + ARGUMENT + STATE,
        "int seatsForGroup(int,int)" + INDEX + ARGUMENT + STATE,
        "int holdGroup(int,int)" + ARGUMENT + STATE,
        "int tickets()",
        "int ticketState(int)" + INDEX,
        "int seatsOf(int)" + INDEX,
        "int priceOf(int)" + INDEX,
        "int extend(int,int)" + INDEX + ARGUMENT + STATE,
        "int pay(int)" + INDEX + STATE,
        "int cancel(int)" + INDEX + STATE,
        "int takings()",
        "int now()",
        "int pass(int)" + ARGUMENT,
        "int nextExpiry()" + STATE,
        "int wish(int,int)" + INDEX + STATE,
        "int exchange(int)" + INDEX + STATE,
    };

    public static void main(String[] args) {
        methods();
        otherMembers();
        Check.end("FaceTest");
    }

    private static String told(Method method) {
        StringBuilder told = new StringBuilder();
        told.append(method.getReturnType().getSimpleName()).append(' ').append(method.getName()).append('(');
        told.append(String.join(",", Arrays.stream(method.getParameterTypes()).map(Class::getSimpleName).toList()));
        told.append(')');
        for (Class<?> thrown : method.getExceptionTypes()) {
            told.append(' ').append(thrown.getSimpleName());
        }
        return told.toString();
    }

    private static void methods() {
        Set<String> open = new TreeSet<>();
        Set<String> openNames = new TreeSet<>();
        for (Method method : BoxofficeRow.class.getDeclaredMethods()) {
            if (!Modifier.isPrivate(method.getModifiers())) {
                open.add(told(method));
                openNames.add(method.getName());
                Check.due(told(method) + " public", true, () -> Modifier.isPublic(method.getModifiers()));
            }
        }
        Check.same("methods of the face", new TreeSet<>(Arrays.asList(FACE)).toString(), open.toString());
        for (Method method : BoxofficeRow.class.getDeclaredMethods()) {
            if (Modifier.isPrivate(method.getModifiers())) {
                Check.due(told(method) + " has a name of its own", false, () -> openNames.contains(method.getName()));
            }
        }
    }

    private static void otherMembers() {
        int itself = BoxofficeRow.class.getModifiers();
        Check.due("public and final", true, () -> Modifier.isPublic(itself) && Modifier.isFinal(itself));
        Constructor<?>[] constructors = BoxofficeRow.class.getDeclaredConstructors();
        Check.due("one constructor", 1, () -> constructors.length);
        Check.due("without arguments", 0, () -> constructors[0].getParameterCount());
        Check.due("public", true, () -> Modifier.isPublic(constructors[0].getModifiers()));
        for (Field field : BoxofficeRow.class.getDeclaredFields()) {
            int how = field.getModifiers();
            Check.due(field.getName() + " private", true, () -> Modifier.isPrivate(how));
            Check.due(field.getName() + " no static state", true, () -> !Modifier.isStatic(how) || Modifier.isFinal(how));
        }
        for (Class<?> inside : BoxofficeRow.class.getDeclaredClasses()) {
            Check.due(inside.getName() + " static", true, () -> Modifier.isStatic(inside.getModifiers()));
        }
    }
}
