import java.lang.reflect.Constructor;
import java.lang.reflect.Field;
import java.lang.reflect.Method;
import java.lang.reflect.Modifier;
import java.util.Arrays;
import java.util.List;
import java.util.TreeSet;

/** The public face: what the document lists, and nothing else that is not private. */
final class FaceTest {
    private static final List<String> CALLS = List.of("int join(int)", "boolean open(int,int,int)",
            "boolean shut(int,int)", "int day()", "int put(long,long)", "int window(int)", "int post(int,int)",
            "int items(int)", "int item(int,int,int)", "long control(int,int)", "long balance(int,int)",
            "long ledger(int)", "int rejected(int)", "int waiting(int,int)");

    public static void main(String[] args) {
        constants();
        members();
        Check.finish();
    }

    private static void constants() {
        Check.due("BAD", ClearingFiles.BAD, -1);
        Check.due("ORDER", ClearingFiles.ORDER, -2);
        Check.due("FULL", ClearingFiles.FULL, -3);
        Check.due("OPEN", ClearingFiles.OPEN, -4);
    }

    private static void members() {
        Check.due("modifiers", ClearingFiles.class.getModifiers(), Modifier.PUBLIC | Modifier.FINAL);
        TreeSet<String> calls = new TreeSet<>();
        for (Method method : ClearingFiles.class.getDeclaredMethods()) {
            if (!Modifier.isPrivate(method.getModifiers())) {
                String parameters = Arrays.toString(method.getParameterTypes()).replaceAll("[\\[\\] ]", "");
                calls.add(method.getReturnType() + " " + method.getName() + "(" + parameters + ")");
            }
        }
        Check.due("calls " + calls, calls.equals(new TreeSet<>(CALLS)), true);
        TreeSet<String> fields = new TreeSet<>();
        for (Field field : ClearingFiles.class.getDeclaredFields()) {
            if (!Modifier.isPrivate(field.getModifiers())) {
                fields.add(Modifier.toString(field.getModifiers()) + " " + field.getName());
            }
        }
        Check.due("fields " + fields, fields.equals(new TreeSet<>(List.of("public static final BAD",
                "public static final ORDER", "public static final FULL", "public static final OPEN"))), true);
        Constructor<?>[] constructors = ClearingFiles.class.getDeclaredConstructors();
        Check.due("constructors", constructors.length, 1);
        Check.due("its parameters", constructors[0].getParameterCount(), 0);
        Check.due("it is public", Modifier.isPublic(constructors[0].getModifiers()), true);
    }
}
