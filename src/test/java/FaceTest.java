import java.lang.reflect.Constructor;
import java.lang.reflect.Field;
import java.lang.reflect.Method;
import java.lang.reflect.Modifier;
import java.util.Arrays;
import java.util.TreeSet;

/** The public face: just the constants, the constructor and the methods of the document. */
public final class FaceTest {
    private static final String[] METHODS = {
        "int flight(int,int)IndexOutOfBoundsException,IllegalArgumentException,IllegalStateException",
        "int entry(int,int,int,int)IndexOutOfBoundsException,IllegalArgumentException,IllegalStateException",
        "boolean exempt(int,boolean)IndexOutOfBoundsException,IllegalStateException",
        "int flightIs(int,int)IndexOutOfBoundsException,IllegalArgumentException",
        "int over(int,int)IndexOutOfBoundsException",
        "int load(int,int,int)IndexOutOfBoundsException,IllegalArgumentException",
        "int inside(int,int)IndexOutOfBoundsException,IllegalArgumentException",
        "int peak(int,int)IndexOutOfBoundsException,IllegalArgumentException",
        "int peakAnew(int,int)IndexOutOfBoundsException,IllegalArgumentException",
        "int regulation(int,int,int,int)IndexOutOfBoundsException,IllegalArgumentException,IllegalStateException",
        "int rate(int,int)IndexOutOfBoundsException,IllegalArgumentException,IllegalStateException",
        "void end(int)IndexOutOfBoundsException,IllegalStateException",
        "int regulationIs(int,int)IndexOutOfBoundsException,IllegalArgumentException",
        "int slot(int,int)IndexOutOfBoundsException",
        "int penalty(int,int)IndexOutOfBoundsException",
        "int due(int)IndexOutOfBoundsException",
        "int dueAnew(int)IndexOutOfBoundsException",
        "int allDue()",
        "int would(int,int,int,int)IndexOutOfBoundsException,IllegalArgumentException",
        "int deal(boolean)",
        "void swap(int,int)IndexOutOfBoundsException,IllegalArgumentException,IllegalStateException",
        "boolean message(int,int,int,int)IndexOutOfBoundsException,IllegalArgumentException",
        "int companyIs(int,int)IndexOutOfBoundsException,IllegalArgumentException",
    };
    private static final String[] CONSTANTS = {
        "CANCEL=1", "CANCELLED=2", "GO=2", "GONE=1", "NONE=-1", "REPLAN=0", "WAITING=0",
    };

    public static void main(String[] args) throws IllegalAccessException {
        int modifiers = SkyloadBureau.class.getModifiers();
        Check.isTrue("the class is public and final", Modifier.isPublic(modifiers) && Modifier.isFinal(modifiers));
        same("methods", methods(), new TreeSet<>(Arrays.asList(METHODS)));
        same("constants", constants(), new TreeSet<>(Arrays.asList(CONSTANTS)));
        Constructor<?>[] made = SkyloadBureau.class.getDeclaredConstructors();
        Check.equal("constructors", made.length, 1);
        Check.isTrue("a public constructor without arguments",
            Modifier.isPublic(made[0].getModifiers()) && made[0].getParameterCount() == 0);
        Check.finish("FaceTest");
    }

    private static TreeSet<String> methods() {
        TreeSet<String> found = new TreeSet<>();
        for (Method method : SkyloadBureau.class.getDeclaredMethods()) {
            if (Modifier.isPrivate(method.getModifiers()) || method.isSynthetic()) {
                continue;
            }
            found.add(method.getReturnType().getSimpleName() + " " + method.getName()
                + "(" + names(method.getParameterTypes()) + ")" + names(method.getExceptionTypes()));
        }
        return found;
    }

    private static TreeSet<String> constants() throws IllegalAccessException {
        TreeSet<String> found = new TreeSet<>();
        for (Field field : SkyloadBureau.class.getDeclaredFields()) {
            if (!Modifier.isPrivate(field.getModifiers())) {
                found.add(field.getName() + "=" + field.getInt(null));
            }
        }
        return found;
    }

    private static String names(Class<?>[] types) {
        StringBuilder text = new StringBuilder();
        for (Class<?> type : types) {
            text.append(text.length() == 0 ? "" : ",").append(type.getSimpleName());
        }
        return text.toString();
    }

    private static void same(String what, TreeSet<String> got, TreeSet<String> due) {
        Check.isTrue(what + " are " + got + ", due are " + due, got.equals(due));
    }
}
