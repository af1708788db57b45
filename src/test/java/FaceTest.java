import java.lang.reflect.Constructor;
import java.lang.reflect.Field;
import java.lang.reflect.Method;
import java.lang.reflect.Modifier;
import java.util.Set;
import java.util.TreeSet;

/** The public face: the constants, the constructor and the methods of the document, and nothing else. */
public final class FaceTest {
    private static final Due due = new Due("FaceTest");

    public static void main(String[] args) throws IllegalAccessException {
        constants();
        methods();
        constructors();
        due.end();
    }

    private static void constants() throws IllegalAccessException {
        Set<String> open = new TreeSet<>();
        for (Field field : MainsWords.class.getDeclaredFields()) {
            if (!Modifier.isPrivate(field.getModifiers())) {
                boolean isConstant = field.getModifiers() == (Modifier.PUBLIC | Modifier.STATIC | Modifier.FINAL);
                open.add(field.getType() + " " + field.getName() + " " + (isConstant ? field.getInt(null) : "open"));
            }
        }
        Set<String> asked = new TreeSet<>(Set.of("int NO_SUCH -1", "int BAD_VALUE -2", "int TOO_MANY -3",
            "int NOT_POSSIBLE -4", "int NONE -5", "int CROSS 0", "int DOOR 1", "int SENSE 2", "int COPIES 3",
            "int SENDER 0", "int MACHINE 1", "int LAMP 2"));
        due.is("the constants", open.toString(), asked.toString());
    }

    private static void methods() {
        Set<String> open = new TreeSet<>();
        Set<String> hidden = new TreeSet<>();
        for (Method method : MainsWords.class.getDeclaredMethods()) {
            StringBuilder face = new StringBuilder(method.getReturnType() + " " + method.getName());
            for (Class<?> type : method.getParameterTypes()) {
                face.append(' ').append(type);
            }
            if (Modifier.isPrivate(method.getModifiers())) {
                hidden.add(method.getName());
            } else {
                open.add(face.toString());
            }
        }
        Set<String> asked = new TreeSet<>(Set.of("int sender int int", "int machine int int int",
            "int lamp int int int", "int remove int int", "int say int int", "int run int boolean", "int set int int", "int pass int",
            "int append int", "int clearText", "int fault", "int perform", "int undo", "int save", "int restore",
            "int senderOf int int", "int queued int int", "int machineOf int int", "int lampOf int int",
            "int receiver int int", "int frame int int", "int loss int int", "int count int", "int total int",
            "int silentIn", "int levelIn int int", "float freshness"));
        due.is("the methods", open.toString(), asked.toString());
        for (String name : hidden) {
            boolean isTaken = asked.stream().anyMatch(face -> face.split(" ")[1].equals(name));
            due.is("private " + name + " bears a public name", String.valueOf(isTaken), "false");
        }
    }

    private static void constructors() {
        Constructor<?>[] all = MainsWords.class.getDeclaredConstructors();
        due.is("one constructor", all.length, 1);
        due.is("it is public", all[0].getModifiers(), Modifier.PUBLIC);
        due.is("without arguments", all[0].getParameterCount(), 0);
        due.is("the class is public and final", MainsWords.class.getModifiers(), Modifier.PUBLIC | Modifier.FINAL);
    }
}
