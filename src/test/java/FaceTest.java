import java.lang.reflect.Constructor;
import java.lang.reflect.Field;
import java.lang.reflect.Method;
import java.lang.reflect.Modifier;
import java.util.ArrayList;
import java.util.Arrays;
import java.util.TreeSet;

/** The class has the document's face and no other visible member. */
public final class FaceTest {
    private static final String[] FACE = {
        "boolean isClosure() throws IllegalStateException",
        "int about(int) throws",
        "int call(int, int) throws IllegalArgumentException IllegalStateException",
        "int choice(int, int, int) throws IllegalArgumentException IllegalStateException",
        "int free(int) throws IllegalArgumentException",
        "int function(int, int, int) throws IllegalArgumentException IllegalStateException",
        "int number(int) throws IllegalStateException",
        "int operation(int, int, int) throws IllegalArgumentException IllegalStateException",
        "int result() throws IllegalStateException",
        "int steps(int) throws IllegalArgumentException NoSuchElementException"
            + " UnsupportedOperationException IllegalStateException",
        "int variable(int) throws IllegalArgumentException IllegalStateException",
        "void begin(int, int) throws IllegalArgumentException",
    };

    private static String written(Method method) {
        StringBuilder text = new StringBuilder();
        text.append(method.getReturnType().getSimpleName()).append(' ').append(method.getName()).append('(');
        for (Class<?> type : method.getParameterTypes()) {
            text.append(text.charAt(text.length() - 1) == '(' ? "" : ", ").append(type.getSimpleName());
        }
        text.append(") throws");
        for (Class<?> type : method.getExceptionTypes()) {
            text.append(' ').append(type.getSimpleName());
        }
        return text.toString();
    }

    public static void main(String[] args) {
        TreeSet<String> visible = new TreeSet<>();
        for (Method method : TrimmedMachine.class.getDeclaredMethods()) {
            if (!Modifier.isPrivate(method.getModifiers())) {
                Check.same(method.getName() + " is public", Modifier.isPublic(method.getModifiers()), true);
                visible.add(written(method));
            }
        }
        Check.same("visible methods", visible, new TreeSet<>(Arrays.asList(FACE)));
        for (Field field : TrimmedMachine.class.getDeclaredFields()) {
            Check.same(field.getName() + " is private", Modifier.isPrivate(field.getModifiers()), true);
        }
        Constructor<?>[] constructors = TrimmedMachine.class.getDeclaredConstructors();
        Check.same("constructors", constructors.length, 1);
        Check.same("parameters of the constructor", constructors[0].getParameterCount(), 0);
        Check.same("modifiers of the constructor", Modifier.toString(constructors[0].getModifiers()), "public");
        Check.same("modifiers of the class", Modifier.toString(TrimmedMachine.class.getModifiers()), "public final");
        namesOfTheFaceAlone();
        Check.finish();
    }

    /** No method that isn't public bears the name of a public one, here or in the classes inside. */
    private static void namesOfTheFaceAlone() {
        TreeSet<String> names = new TreeSet<>();
        for (Method method : TrimmedMachine.class.getMethods()) {
            names.add(method.getName());
        }
        ArrayList<Class<?>> all = new ArrayList<>(Arrays.asList(TrimmedMachine.class.getDeclaredClasses()));
        for (Class<?> inside : all) {
            int modifiers = inside.getModifiers();
            Check.same(inside.getName() + " is static", Modifier.isStatic(modifiers), true);
            Check.same(inside.getName() + " is hidden", Modifier.isPublic(modifiers) || Modifier.isProtected(modifiers), false);
        }
        all.add(TrimmedMachine.class);
        for (Class<?> one : all) {
            for (Method method : one.getDeclaredMethods()) {
                boolean hidden = !Modifier.isPublic(method.getModifiers());
                Check.same(one.getName() + "." + method.getName() + " bears a name of the face",
                    hidden && names.contains(method.getName()), false);
            }
        }
    }
}
