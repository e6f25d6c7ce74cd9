import java.lang.reflect.Constructor;
import java.lang.reflect.Field;
import java.lang.reflect.Member;
import java.lang.reflect.Method;
import java.lang.reflect.Modifier;
import java.util.Arrays;
import java.util.Set;
import java.util.TreeSet;

/** The public face of the document, all of it and nothing else, and its constants. */
final class FaceTest {
    private static final Due DUE = new Due("FaceTest");
    private static final String FACE = """
        int begin(int)
        int get(int, int)
        int put(int, int, int)
        int delete(int, int)
        int scan(int, int, int)
        int resume(int)
        int value()
        int commit(int)
        int abort(int)
        int save(int)
        int rollback(int, int)
        boolean write(int)
        int archive()
        int crash(int)
        int state(int)
        int parent(int)
        int lock(int, int)
        boolean waits(int, int)
        int entry(int, int)
        int log(int)
        int key(int, int)
        int frame(int)
        int page(int)
        """;

    public static void main(String[] args) throws ReflectiveOperationException {
        constants();
        methods();
        noOtherMembers();
        classesInside();
        DUE.end();
    }

    private static void constants() throws ReflectiveOperationException {
        String[] names = {"NONE", "WAIT", "VICTIM", "BUSY", "FULL"};
        for (int i = 0; i < names.length; i++) {
            Field field = NestedStore.class.getField(names[i]);
            DUE.is(names[i], field.getInt(null), -1 - i);
            int finalStatic = Modifier.FINAL | Modifier.STATIC | Modifier.PUBLIC;
            DUE.is(names[i] + " is public static final", field.getModifiers(), finalStatic);
        }
        DUE.is("public fields", NestedStore.class.getFields().length, names.length);
    }

    private static String signature(Method method) {
        String types = Arrays.toString(method.getParameterTypes());
        String list = types.substring(1, types.length() - 1);
        return method.getReturnType() + " " + method.getName() + "(" + list + ")";
    }

    private static void methods() {
        Set<String> found = new TreeSet<>();
        Set<String> names = new TreeSet<>();
        for (Method method : NestedStore.class.getDeclaredMethods()) {
            if (Modifier.isPublic(method.getModifiers())) {
                found.add(signature(method));
                names.add(method.getName());
            }
        }
        Set<String> asked = new TreeSet<>(Arrays.asList(FACE.split("\n")));
        DUE.yes("the methods are " + asked + ": " + found, found.equals(asked));
        for (Method method : NestedStore.class.getDeclaredMethods()) {
            boolean isPrivate = Modifier.isPrivate(method.getModifiers());
            boolean shares = isPrivate && names.contains(method.getName());
            DUE.is(method + " bears a public one's name", shares, false);
        }
    }

    private static void noOtherMembers() {
        Constructor<?>[] made = NestedStore.class.getDeclaredConstructors();
        DUE.is("constructors", made.length, 1);
        DUE.yes("it is public, of an int", made[0].toString().equals("public NestedStore(int)"));
        DUE.yes("final", Modifier.isFinal(NestedStore.class.getModifiers()));
        for (Field field : NestedStore.class.getDeclaredFields()) {
            publicOrPrivate(field);
        }
        for (Method method : NestedStore.class.getDeclaredMethods()) {
            publicOrPrivate(method);
        }
    }

    private static void publicOrPrivate(Member member) {
        int modifiers = member.getModifiers();
        boolean either = Modifier.isPublic(modifiers) || Modifier.isPrivate(modifiers);
        DUE.yes(member + " is public or private", either);
    }

    private static void classesInside() {
        for (Class<?> inside : NestedStore.class.getDeclaredClasses()) {
            DUE.yes(inside + " is static", Modifier.isStatic(inside.getModifiers()));
            DUE.is(inside + " is public", Modifier.isPublic(inside.getModifiers()), false);
        }
    }
}
