import java.lang.reflect.Constructor;
import java.lang.reflect.Field;
import java.lang.reflect.Method;
import java.lang.reflect.Modifier;
import java.util.Arrays;
import java.util.TreeSet;

/** The public face, and nothing beside it that others could see. */
public final class FaceTest {
    private static final Due due = new Due();
    private static final String[] FACE = {
        "age(int)", "clear(int)", "code(int,int,int)", "cut()", "cycle(boolean)", "displaced(int)",
        "enable(int,boolean)", "event(int,boolean)", "lamp(int)", "parent(int,int)",
        "snapshot(int,int,int)", "start()", "status(int)", "stored(int,int)",
    };

    public static void main(String[] args) {
        int modifiers = TroubleMemory.class.getModifiers();
        due.is(1, Modifier.isPublic(modifiers) && Modifier.isFinal(modifiers) ? 1 : 0, "public and final");
        methods();
        Constructor<?>[] constructors = TroubleMemory.class.getDeclaredConstructors();
        due.is(1, constructors.length, "constructors");
        due.is(1, Modifier.isPublic(constructors[0].getModifiers()) ? 1 : 0, "public constructor");
        for (Field field : TroubleMemory.class.getDeclaredFields()) {
            due.is(1, Modifier.isPrivate(field.getModifiers()) ? 1 : 0, "private field " + field.getName());
        }
        due.end();
    }

    private static void methods() {
        TreeSet<String> seen = new TreeSet<>();
        TreeSet<String> names = new TreeSet<>();
        for (Method method : TroubleMemory.class.getDeclaredMethods()) {
            if (!Modifier.isPrivate(method.getModifiers())) {
                seen.add(signature(method));
                names.add(method.getName());
                due.is(1, method.getReturnType() == int.class ? 1 : 0, method.getName() + " answers an int");
            }
        }
        TreeSet<String> face = new TreeSet<>(Arrays.asList(FACE));
        due.is(1, seen.equals(face) ? 1 : 0, "the face is the document's: " + seen);
        for (Method method : TroubleMemory.class.getDeclaredMethods()) {
            boolean shadows = Modifier.isPrivate(method.getModifiers()) && names.contains(method.getName());
            due.is(0, shadows ? 1 : 0, "private method with a public name: " + method.getName());
        }
    }

    private static String signature(Method method) {
        String parameters = Arrays.toString(Arrays.stream(method.getParameterTypes())
                .map(Class::getName).toArray());
        return method.getName() + "(" + parameters.substring(1, parameters.length() - 1).replace(" ", "") + ")";
    }
}
