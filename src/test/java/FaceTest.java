import java.lang.reflect.Constructor;
import java.lang.reflect.Field;
import java.lang.reflect.Method;
import java.lang.reflect.Modifier;
import java.util.ArrayList;
import java.util.Arrays;
import java.util.List;
import java.util.TreeSet;

/** The class has the document's public members, and everything else in it is private. */
public final class FaceTest {
    private static final String[] FACE = {
        "int NONE", "int DOWN", "int FULL", "TrailStore(int)", "int type(long, int)", "int put(int)",
        "int remove(int)", "int begin()", "int commit()", "int cancel()", "int get(int)", "int read(int)",
        "int next(int)", "int sync()", "int checkpoint()", "int collect(int)", "int crash(int, int)",
        "int fail(int, int, int)", "int spare()", "int open()", "int told(int)", "int table(int, int)",
        "int entry(int, int)", "int cell(int, int)", "int check()"};

    public static void main(String[] args) {
        Due due = new Due("The public face");
        due.sentence("public final class TrailStore {");
        TreeSet<String> found = new TreeSet<>();
        List<String> names = new ArrayList<>();
        for (Field field : TrailStore.class.getDeclaredFields()) {
            if (!Modifier.isPrivate(field.getModifiers())) {
                found.add(field.getType() + " " + field.getName());
            }
        }
        for (Constructor<?> made : TrailStore.class.getDeclaredConstructors()) {
            found.add("TrailStore" + list(made.getParameterTypes()));
        }
        for (Method method : TrailStore.class.getDeclaredMethods()) {
            names.add(method.getName());
            if (!Modifier.isPrivate(method.getModifiers())) {
                found.add(method.getReturnType() + " " + method.getName() + list(method.getParameterTypes()));
            }
        }
        TreeSet<String> want = new TreeSet<>(Arrays.asList(FACE));
        if (!found.equals(want)) {
            System.out.println("found " + found + ", due is " + want);
        }
        due.is("whether the face is the document's", found.equals(want) ? 1 : 0, 1);
        due.is("whether the class is public and final",
                TrailStore.class.getModifiers() & (Modifier.PUBLIC | Modifier.FINAL), Modifier.PUBLIC | Modifier.FINAL);
        due.is("methods with a name of another", names.size() - new TreeSet<>(names).size(), 0);
        for (Class<?> inside : TrailStore.class.getDeclaredClasses()) {
            due.is("whether " + inside.getSimpleName() + " is static", inside.getModifiers() & Modifier.STATIC,
                    Modifier.STATIC);
        }
        due.end();
    }

    private static String list(Class<?>[] types) {
        List<String> names = new ArrayList<>();
        for (Class<?> type : types) {
            names.add(type.getName());
        }
        return "(" + String.join(", ", names) + ")";
    }
}
