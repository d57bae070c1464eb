import java.lang.reflect.Constructor;
import java.lang.reflect.Field;
import java.lang.reflect.Method;
import java.lang.reflect.Modifier;
import java.util.Arrays;
import java.util.List;
import java.util.TreeSet;

/** The class shows the face of the document and nothing else. */
public final class FaceTest {
    private static final List<String> METHODS = Arrays.asList(
            "people(int)int", "pair(int,int,int,int)int", "fee(int,int,int)int", "gap(int)int", "look(int)int",
            "away(int,boolean)int", "best(int,int,int)int", "wayAt(int)int", "promise(int,int,int)int",
            "tell(int)int", "tick(int)int", "promiseAt(int,int)int", "side(int,int)int", "locked(int,int)int",
            "about(int,int)int", "stateAt(int,int,int)int", "close(int,int,int)int", "wealth(int)int", "off()int",
            "ring(int,int)int", "even()int", "tries(int)int", "learnt(int,int)int", "count(int)int", "digest()long");

    public static void main(String[] args) {
        Check check = new Check();
        Class<?> type = PromiseChains.class;
        check.holds("public and final", Modifier.isPublic(type.getModifiers()) && Modifier.isFinal(type.getModifiers()));
        TreeSet<String> open = new TreeSet<>();
        for (Method method : type.getDeclaredMethods()) {
            if (Modifier.isPrivate(method.getModifiers()) || method.isSynthetic()) {
                check.holds("no private method bears a public name: " + method, !bearsPublicName(method.getName()));
            } else {
                check.holds("public, not static: " + method, method.getModifiers() == Modifier.PUBLIC);
                open.add(told(method));
            }
        }
        check.holds("methods are those of the document: " + open, open.equals(new TreeSet<>(METHODS)));
        checkFields(check, type);
        Constructor<?>[] made = type.getDeclaredConstructors();
        check.holds("one constructor, public, without parameters", made.length == 1
                && made[0].getParameterCount() == 0 && Modifier.isPublic(made[0].getModifiers()));
        for (Class<?> inside : type.getDeclaredClasses()) {
            int is = inside.getModifiers();
            check.holds("static and hidden: " + inside,
                    Modifier.isStatic(is) && !Modifier.isPublic(is) && !Modifier.isProtected(is));
        }
        check.due("NONE", PromiseChains.NONE, -1);
        check.due("BAD", PromiseChains.BAD, -2);
        check.due("NO", PromiseChains.NO, -3);
        check.due("FULL", PromiseChains.FULL, -4);
        check.end();
    }

    private static void checkFields(Check check, Class<?> type) {
        TreeSet<String> open = new TreeSet<>();
        for (Field field : type.getDeclaredFields()) {
            int is = field.getModifiers();
            if (Modifier.isStatic(is)) {
                check.holds("static fields are final: " + field, Modifier.isFinal(is));
            }
            if (!Modifier.isPrivate(is)) {
                check.holds("public static final int: " + field, field.getType() == int.class && Modifier.isPublic(is)
                        && Modifier.isStatic(is));
                open.add(field.getName());
            }
        }
        check.holds("constants are those of the document: " + open,
                open.equals(new TreeSet<>(Arrays.asList("NONE", "BAD", "NO", "FULL"))));
    }

    private static boolean bearsPublicName(String name) {
        for (String method : METHODS) {
            if (method.startsWith(name + "(")) {
                return true;
            }
        }
        return false;
    }

    private static String told(Method method) {
        StringBuilder text = new StringBuilder(method.getName()).append('(');
        for (int i = 0; i < method.getParameterCount(); i++) {
            text.append(i == 0 ? "" : ",").append(method.getParameterTypes()[i].getSimpleName());
        }
        return text.append(')').append(method.getReturnType().getSimpleName()).toString();
    }
}
