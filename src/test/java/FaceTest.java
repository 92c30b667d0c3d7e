import java.lang.reflect.Constructor;
import java.lang.reflect.Field;
import java.lang.reflect.Method;
import java.lang.reflect.Modifier;
import java.util.Arrays;
import java.util.Set;
import java.util.TreeSet;

/** The public face is the document's: nothing is missing, and nothing more can be seen. */
public final class FaceTest {
    private static final String STATE = "IllegalStateException";
    private static final String ARGUMENT = "IllegalArgumentException";
    private static final String ELEMENT = "NoSuchElementException";

    public static void main(String[] args) {
        Set<String> due = new TreeSet<>(Arrays.asList(
                "int raw(long, int) " + STATE + " " + ARGUMENT,
                "int blocks(boolean)",
                "int write(int, long) " + ARGUMENT,
                "int writeFloat(float, int) " + ARGUMENT,
                "int writeDouble(double, int) " + ARGUMENT,
                "int put(int, int) " + ARGUMENT,
                "int writeText(int) " + ARGUMENT,
                "int flush()",
                "long read(int) " + STATE + " " + ARGUMENT + " " + ELEMENT,
                "float readFloat() " + STATE + " " + ELEMENT,
                "double readDouble() " + STATE + " " + ELEMENT,
                "int readText() " + STATE + " " + ARGUMENT + " " + ELEMENT,
                "int readBlocks(boolean) " + STATE,
                "int skip(int) " + STATE + " " + ARGUMENT,
                "int rewind()",
                "int byteAt(int)",
                "int code(int) " + ARGUMENT,
                "int state(int) " + ARGUMENT));
        Set<String> seen = new TreeSet<>();
        Set<String> names = new TreeSet<>();
        for (Method method : WireData.class.getDeclaredMethods()) {
            if (!Modifier.isPrivate(method.getModifiers())) {
                seen.add(describe(method));
                names.add(method.getName());
            }
        }
        System.out.print(seen.equals(due) ? "" : "seen: " + seen + "\ndue: " + due + "\n");
        Check.isTrue("the methods are the document's", seen.equals(due));
        checkPrivateNames(names);
        checkConstructor();
        checkFields();
        checkClasses();
        Check.same("FULL", WireData.FULL, -2);
        Check.finish();
    }

    private static String describe(Method method) {
        StringBuilder text = new StringBuilder();
        text.append(Modifier.isPublic(method.getModifiers()) ? "" : "not public ");
        text.append(Modifier.isStatic(method.getModifiers()) ? "static " : "");
        text.append(method.getReturnType().getName()).append(' ').append(method.getName()).append('(');
        for (int i = 0; i < method.getParameterCount(); i++) {
            text.append(i == 0 ? "" : ", ").append(method.getParameterTypes()[i].getName());
        }
        text.append(')');
        for (Class<?> thrown : method.getExceptionTypes()) {
            text.append(' ').append(thrown.getSimpleName());
        }
        return text.toString();
    }

    private static void checkPrivateNames(Set<String> names) {
        for (Method method : WireData.class.getDeclaredMethods()) {
            if (Modifier.isPrivate(method.getModifiers())) {
                Check.isTrue("name of the private " + method.getName(), !names.contains(method.getName()));
            }
        }
    }

    private static void checkConstructor() {
        Constructor<?>[] all = WireData.class.getDeclaredConstructors();
        Check.same("constructors", all.length, 1);
        Check.isTrue("the constructor is public", Modifier.isPublic(all[0].getModifiers()));
        Check.same("parameters of the constructor", all[0].getParameterCount(), 0);
    }

    private static void checkFields() {
        for (Field field : WireData.class.getDeclaredFields()) {
            int marks = field.getModifiers();
            if (field.getName().equals("FULL")) {
                Check.isTrue("FULL is a public constant of int", Modifier.isPublic(marks)
                        && Modifier.isStatic(marks) && Modifier.isFinal(marks) && field.getType() == int.class);
            } else {
                Check.isTrue("field " + field.getName() + " is private", Modifier.isPrivate(marks));
                Check.isTrue("field " + field.getName() + " is final if static",
                        !Modifier.isStatic(marks) || Modifier.isFinal(marks));
            }
        }
    }

    private static void checkClasses() {
        Check.isTrue("the class is public and final", Modifier.isPublic(WireData.class.getModifiers())
                && Modifier.isFinal(WireData.class.getModifiers()));
        for (Class<?> inner : WireData.class.getDeclaredClasses()) {
            int marks = inner.getModifiers();
            Check.isTrue("class " + inner.getName(), Modifier.isStatic(marks)
                    && !Modifier.isPublic(marks) && !Modifier.isProtected(marks));
        }
    }
}
