import java.lang.reflect.Constructor;
import java.lang.reflect.Field;
import java.lang.reflect.Method;
import java.lang.reflect.Modifier;
import java.util.Set;
import java.util.TreeSet;

/** The public face of the document, and nothing beside it. */
public final class FaceTest {

    private static final String[] METHODS = {
        "int print(int,int)", "int shake(int)", "int move(int,int)", "int takeOut(int)", "int refill(int,int)",
        "int set(int,int)", "int append(int)", "int clear()", "int fault()", "int run()", "int why(int)",
        "int cup(int,int)", "int printer(int,int)", "int needs(int,int,int)", "int whyNot(int)", "int count(int)",
        "double darkness()", "int lasts(int,int,boolean)", "int atHand(int,int,int,int)", "int bestFor(int,int)",
        "int darkest(int,int,int)", "int undo()", "int save()", "int restore()"
    };

    private static final String[] CONSTANTS = {
        "INVALID_ARGUMENT = -1", "NOT_POSSIBLE = -2", "LIMIT_REACHED = -3", "NOT_FOUND = -4",
        "DARK = 0", "SETTLE = 1", "STRICT = 2", "SCALE = 3"
    };

    public static void main(String[] args) throws IllegalAccessException {
        Check.due("modifiers of the class", DotToner.class.getModifiers(), Modifier.PUBLIC | Modifier.FINAL);
        methods();
        constants();
        constructors();
        Check.finish();
    }

    private static void methods() {
        Set<String> faceNames = new TreeSet<>();
        Set<String> found = new TreeSet<>();
        for (Method method : DotToner.class.getDeclaredMethods()) {
            if (!method.isSynthetic() && !Modifier.isPrivate(method.getModifiers())) {
                Check.due("modifiers of " + method.getName(), method.getModifiers(), Modifier.PUBLIC);
                found.add(signature(method));
                faceNames.add(method.getName());
            }
        }
        Check.dueText("the methods", found, new TreeSet<>(Set.of(METHODS)));
        for (Method method : DotToner.class.getDeclaredMethods()) {
            if (Modifier.isPrivate(method.getModifiers()) && faceNames.contains(method.getName())) {
                Check.tell("a private method bears the name " + method.getName());
            }
        }
    }

    private static String signature(Method method) {
        StringBuilder text = new StringBuilder();
        text.append(method.getReturnType().getName()).append(' ').append(method.getName()).append('(');
        for (Class<?> type : method.getParameterTypes()) {
            text.append(text.charAt(text.length() - 1) == '(' ? "" : ",").append(type.getName());
        }
        return text.append(')').toString();
    }

    private static void constants() throws IllegalAccessException {
        Set<String> found = new TreeSet<>();
        for (Field field : DotToner.class.getDeclaredFields()) {
            int modifiers = field.getModifiers();
            if (!Modifier.isPrivate(modifiers)) {
                Check.due("modifiers of " + field.getName(), modifiers,
                        Modifier.PUBLIC | Modifier.STATIC | Modifier.FINAL);
                found.add(field.getName() + " = " + field.getInt(null));
            }
            if (Modifier.isStatic(modifiers) && !Modifier.isFinal(modifiers)) {
                Check.tell("static and not final: " + field.getName());
            }
        }
        Check.dueText("the constants", found, new TreeSet<>(Set.of(CONSTANTS)));
    }

    private static void constructors() {
        Constructor<?>[] all = DotToner.class.getDeclaredConstructors();
        Check.due("how many constructors", all.length, 1);
        Check.due("its modifiers", all[0].getModifiers(), Modifier.PUBLIC);
        Check.due("its parameters", all[0].getParameterCount(), 0);
    }
}
