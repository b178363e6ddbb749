import java.lang.reflect.Constructor;
import java.lang.reflect.Field;
import java.lang.reflect.Method;
import java.lang.reflect.Modifier;
import java.util.Arrays;
import java.util.Set;
import java.util.TreeSet;

/** The public face: what the document lists, and no other member that can be seen from outside. */
public final class FaceTest {
    private static final String[] METHODS = {
        "anew 0", "begin 1", "record 4", "takeOff 2", "turn 2", "pull 2", "drift 2", "undo 0", "told 1", "house 2",
        "text 2", "history 3", "change 3", "round 4", "shelve 3", "shelveText 2", "empty 1", "shelved 2", "letter 2",
        "isText 2", "oppose 2", "keep 1", "goBack 1",
    };
    private static final String[] CONSTANTS = {
        "NONE -1", "UNKNOWN -1000000001", "OUTSIDE -1000000002", "NOT -1000000003", "FULL -1000000004",
        "NULL -1000000011", "CAST -1000000012",
    };

    private FaceTest() {
    }

    public static void main(String[] args) throws ReflectiveOperationException {
        Due due = new Due();
        Class<PatchHouse> face = PatchHouse.class;
        due.is("public and final", face.getModifiers(), Modifier.PUBLIC | Modifier.FINAL);
        Set<String> methods = new TreeSet<>();
        for (Method m : face.getDeclaredMethods()) {
            if (!Modifier.isPrivate(m.getModifiers())) {
                methods.add(m.getName() + " " + m.getParameterCount());
                due.is(m + " answers an int", m.getReturnType() == int.class);
                due.is(m + " is public alone", m.getModifiers(), Modifier.PUBLIC);
                due.is(m + " takes ints", Arrays.stream(m.getParameterTypes()).allMatch(t -> t == int.class));
            } else {
                due.is(m + " bears no public name", !Arrays.asList(METHODS).stream().anyMatch(n -> n.startsWith(m.getName() + " ")));
            }
        }
        due.is("methods " + methods, methods.equals(new TreeSet<>(Arrays.asList(METHODS))));
        Set<String> constants = new TreeSet<>();
        for (Field f : face.getDeclaredFields()) {
            if (!Modifier.isPrivate(f.getModifiers())) {
                constants.add(f.getName() + " " + f.getInt(null));
                due.is(f + " is a constant", f.getModifiers(), Modifier.PUBLIC | Modifier.STATIC | Modifier.FINAL);
            }
        }
        due.is("constants " + constants, constants.equals(new TreeSet<>(Arrays.asList(CONSTANTS))));
        Constructor<?>[] made = face.getDeclaredConstructors();
        due.is("one constructor", made.length, 1);
        due.is("that is public", made[0].getModifiers(), Modifier.PUBLIC);
        due.is("and takes nothing", made[0].getParameterCount(), 0);
        for (Class<?> inside : face.getDeclaredClasses()) {
            due.is(inside + " is static", Modifier.isStatic(inside.getModifiers()));
            due.is(inside + " is not public", !Modifier.isPublic(inside.getModifiers()) && !Modifier.isProtected(inside.getModifiers()));
        }
        due.is("some twelve classes", face.getDeclaredClasses().length <= 12);
        due.end("FaceTest");
    }
}
