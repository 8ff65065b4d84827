import java.lang.reflect.Constructor;
import java.lang.reflect.Field;
import java.lang.reflect.Member;
import java.lang.reflect.Method;
import java.lang.reflect.Modifier;
import java.util.ArrayList;
import java.util.Arrays;
import java.util.List;

/** The public face is the document's, and nothing but it is seen from outside. */
public final class FaceTest {
    private static final Check check = new Check("FaceTest");
    private static final String[] METHODS = {
        "public int feed(int, int, int, int, int) throws UnsupportedOperationException",
        "public void end(int) throws IllegalArgumentException",
        "public int raw()",
        "public int record(int) throws IllegalArgumentException",
        "public int call(int, int, int, boolean, long) throws IllegalArgumentException",
        "public int push(int, int, int, int) throws IndexOutOfBoundsException",
        "public boolean open(int) throws IndexOutOfBoundsException",
        "public int length(int) throws IndexOutOfBoundsException",
        "public int byteAt(int, int) throws IndexOutOfBoundsException",
        "public int word(int, int) throws IndexOutOfBoundsException",
        "public int says(int, int) throws IndexOutOfBoundsException",
        "public long value()",
        "public boolean has()",
        "public int count(int) throws IllegalArgumentException",
    };

    public static void main(String[] args) {
        int how = RecordCalls.class.getModifiers();
        check.same("public and final", Modifier.isPublic(how) && Modifier.isFinal(how), true);
        methods();
        constructors();
        fields();
        classesInside();
        check.finish();
    }

    private static boolean isSeen(Member member) {
        return !Modifier.isPrivate(member.getModifiers()) && !member.isSynthetic();
    }

    private static void methods() {
        List<String> due = new ArrayList<>(Arrays.asList(METHODS));
        List<String> names = new ArrayList<>();
        for (Method method : RecordCalls.class.getDeclaredMethods()) {
            if (isSeen(method)) {
                String text = textOf(method);
                check.same("is in the document: " + text, due.remove(text), true);
                names.add(method.getName());
            }
        }
        check.same("not there: " + due, due.isEmpty(), true);
        for (Method method : RecordCalls.class.getDeclaredMethods()) {
            boolean hides = !isSeen(method) && names.contains(method.getName());
            check.same("private with a public name: " + method, hides, false);
        }
    }

    private static String textOf(Method method) {
        return method.toGenericString().replace("RecordCalls.", "").replace("java.lang.", "").replace(",", ", ");
    }

    private static void constructors() {
        Constructor<?>[] all = RecordCalls.class.getDeclaredConstructors();
        check.same("one constructor", all.length, 1);
        check.same("of nothing", all[0].getParameterCount(), 0);
        check.same("public", Modifier.isPublic(all[0].getModifiers()), true);
    }

    private static void fields() {
        for (Field field : RecordCalls.class.getDeclaredFields()) {
            if (isSeen(field)) {
                check.same("the one that is seen", field.toString(), "public static final int RecordCalls.NONE");
            }
        }
        check.same("NONE", RecordCalls.NONE, -1);
    }

    private static void classesInside() {
        for (Class<?> inside : RecordCalls.class.getDeclaredClasses()) {
            int how = inside.getModifiers();
            boolean isHidden = !Modifier.isPublic(how) && !Modifier.isProtected(how);
            check.same(inside + " is hidden and static", isHidden && Modifier.isStatic(how), true);
        }
    }
}
