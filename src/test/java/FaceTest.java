import java.lang.reflect.Constructor;
import java.lang.reflect.Field;
import java.lang.reflect.Method;
import java.lang.reflect.Modifier;
import java.util.ArrayList;
import java.util.List;
import java.util.TreeSet;

/** The public face, as the document writes it, and nothing beside it (rule 1 of the language); fields and sizes. */
public final class FaceTest {
    private static final String I = "IllegalArgumentException";
    private static final String S = "IllegalStateException";
    private static final String N = "NoSuchElementException";
    private static final String U = "UnsupportedOperationException";
    private static final String P = "IndexOutOfBoundsException";
    private static final String A = "ArithmeticException";

    /** The types that rule 5 of the language allows for a constant, but for arrays, which the class has none of. */
    private static final List<String> CONSTANTS = List.of("int", "long", "boolean", "char", "String");

    private static final String[] FACE = {
        "int addStation(int,int,int,int) " + I + " " + S,
        "int supply(int,int) " + N + " " + I + " " + S,
        "int setPeriod(int) " + I,
        "int addCar(int) " + I + " " + S,
        "int swap(int,int) " + N + " " + I + " " + S,
        "int fault(int,int) " + N + " " + S + " " + U,
        "int tick(int) " + I + " " + S,
        "int now()",
        "int stations()",
        "int cars()",
        "char stateOf(int) " + N,
        "int stationOf(int) " + N + " " + S,
        "int toGo(int) " + N + " " + S,
        "int carAt(int) " + N + " " + S,
        "boolean isBack(int) " + N,
        "int waiting()",
        "int waitingAt(int) " + P,
        "int looped()",
        "int loopedAt(int) " + P,
        "int left()",
        "int leftAt(int) " + P,
        "int leftIn(int) " + N + " " + S,
        "int faults(int) " + N,
        "boolean hasFault(int,int) " + N,
        "int lacks(int) " + N,
        "int lacksOf(int) " + N,
        "int onShelf(int) " + N,
        "int inStore(int) " + N,
        "int nextRound()",
        "int leavesIn(int) " + N + " " + S + " " + U,
        "int leavesByTicks(int) " + N + " " + S + " " + U,
        "int nextToLeave() " + N,
        "int traceLength(int) " + N,
        "char traceAt(int,int) " + N + " " + P,
        "int countOf(char) " + I,
        "long fitted()",
        "float lackShare() " + A,
        "double meanTime() " + A,
    };

    public static void main(String[] args) {
        Check.isTrue("public", Modifier.isPublic(Lineclock.class.getModifiers()));
        Check.isTrue("final", Modifier.isFinal(Lineclock.class.getModifiers()));
        Check.same("its class above", Lineclock.class.getSuperclass(), Object.class);
        Check.same("its interfaces", Lineclock.class.getInterfaces().length, 0);
        methods();
        constructors();
        othersArePrivate();
        fieldsAndSizes(Lineclock.class);
        for (Class<?> inside : Lineclock.class.getDeclaredClasses()) {
            fieldsAndSizes(inside);
        }
        Check.end();
    }

    private static void methods() {
        TreeSet<String> due = new TreeSet<>(List.of(FACE));
        TreeSet<String> got = new TreeSet<>();
        for (Method method : Lineclock.class.getDeclaredMethods()) {
            if (!Modifier.isPrivate(method.getModifiers()) && !method.isSynthetic()) {
                got.add(told(method));
                Check.isTrue(method + " is public", Modifier.isPublic(method.getModifiers()));
                Check.isTrue(method + " is not static", !Modifier.isStatic(method.getModifiers()));
            }
        }
        Check.same("the methods", got, due);
    }

    private static String told(Method method) {
        List<String> words = new ArrayList<>();
        for (Class<?> type : method.getParameterTypes()) {
            words.add(type.getSimpleName());
        }
        StringBuilder text = new StringBuilder(method.getReturnType().getSimpleName());
        text.append(' ').append(method.getName()).append('(').append(String.join(",", words)).append(')');
        for (Class<?> type : method.getExceptionTypes()) {
            text.append(' ').append(type.getSimpleName());
        }
        return text.toString();
    }

    private static void constructors() {
        Constructor<?>[] all = Lineclock.class.getDeclaredConstructors();
        Check.same("one constructor", all.length, 1);
        Check.isTrue("which is public", Modifier.isPublic(all[0].getModifiers()));
        Check.same("without parameters", all[0].getParameterCount(), 0);
        Check.same("and without exceptions", all[0].getExceptionTypes().length, 0);
    }

    private static void othersArePrivate() {
        TreeSet<String> names = new TreeSet<>();
        for (String each : FACE) {
            names.add(each.substring(each.indexOf(' ') + 1, each.indexOf('(')));
        }
        for (Method method : Lineclock.class.getDeclaredMethods()) {
            if (Modifier.isPrivate(method.getModifiers())) {
                Check.isTrue(method + " has a name of its own", !names.contains(method.getName()));
            }
        }
        for (Field field : Lineclock.class.getDeclaredFields()) {
            Check.isTrue(field + " is private", Modifier.isPrivate(field.getModifiers()));
            Check.isTrue(field + " is final", Modifier.isFinal(field.getModifiers()));
        }
        for (Class<?> inside : Lineclock.class.getDeclaredClasses()) {
            Check.isTrue(inside + " is private", Modifier.isPrivate(inside.getModifiers()));
            Check.isTrue(inside + " is static", Modifier.isStatic(inside.getModifiers()));
        }
    }

    private static void fieldsAndSizes(Class<?> kind) {
        int fields = 0;
        for (Field field : kind.getDeclaredFields()) {
            if (Modifier.isStatic(field.getModifiers())) {
                Class<?> type = field.getType();
                Check.isTrue("rule 5: " + field + " is final", Modifier.isFinal(field.getModifiers()));
                Check.isTrue("rule 5: the type of " + field, CONSTANTS.contains(type.getSimpleName()));
            } else {
                fields++;
            }
        }
        Check.isTrue("rule 11: some twenty fields in " + kind, fields <= 20);
        for (Method method : kind.getDeclaredMethods()) {
            Check.isTrue("rule 11: at most seven parameters of " + method, method.getParameterCount() <= 7);
        }
        Check.same("rule 1: no class inside a class inside " + kind,
                kind == Lineclock.class ? 0 : kind.getDeclaredClasses().length, 0);
    }
}
