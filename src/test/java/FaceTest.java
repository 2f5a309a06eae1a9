import java.lang.reflect.Field;
import java.lang.reflect.Method;
import java.lang.reflect.Modifier;
import java.util.Arrays;
import java.util.Set;
import java.util.TreeSet;

/** The public face, as the document has it and no more; its constants. */
public final class FaceTest {
    private static final Check CHECK = new Check("FaceTest");
    private static final String[] METHODS = {
        "int type(long, int)", "int clear()", "int market()", "int thing(int)", "int weigh(int, int, int)",
        "int tell(int, int, int)", "int line(int, int)", "int undo()", "int could(int, int)", "int sure(int)",
        "int wrong(int)", "int next(int)", "int fewest(int)", "int laugh(int)", "long odds(int, int, int, int)",
        "int sack(int, int)", "int byTurns()", "int mark(int, int)", "int keep(int)", "int back(int)",
        "int count(int)", "long trace()"};

    public static void main(String[] args) {
        constants();
        methods();
        nothingElse();
        CHECK.end();
    }

    private static void constants() {
        CHECK.due("BAD", SelfScale.BAD, -1);
        CHECK.due("STATE", SelfScale.STATE, -2);
        CHECK.due("FULL", SelfScale.FULL, -3);
        CHECK.due("NONE", SelfScale.NONE, -9);
        CHECK.due("NO", SelfScale.NO, -1000000);
        Set<String> names = new TreeSet<>();
        for (Field field : SelfScale.class.getDeclaredFields()) {
            if (!Modifier.isPrivate(field.getModifiers())) {
                names.add(field.getName());
            }
        }
        same("constants", names, new TreeSet<>(Arrays.asList("BAD", "STATE", "FULL", "NONE", "NO")));
    }

    private static void methods() {
        Set<String> all = new TreeSet<>();
        for (Method method : SelfScale.class.getDeclaredMethods()) {
            if (!Modifier.isPrivate(method.getModifiers())) {
                String types = Arrays.toString(Arrays.stream(method.getParameterTypes()).map(Class::getName).toArray());
                all.add(method.getReturnType() + " " + method.getName() + "(" + types.substring(1, types.length() - 1) + ")");
            }
        }
        same("methods", all, new TreeSet<>(Arrays.asList(METHODS)));
    }

    /** No private method, here or in a class inside, bears the name of a public one. */
    private static void nothingElse() {
        Set<String> names = new TreeSet<>();
        for (String method : METHODS) {
            names.add(method.substring(method.indexOf(' ') + 1, method.indexOf('(')));
        }
        for (Method method : SelfScale.class.getDeclaredMethods()) {
            boolean isPublic = Modifier.isPublic(method.getModifiers());
            CHECK.due("name of " + method, !isPublic && names.contains(method.getName()) ? 1 : 0, 0);
        }
        Class<?>[] inside = SelfScale.class.getDeclaredClasses();
        CHECK.due("at most twelve classes", inside.length + 1 > 12 ? 1 : 0, 0);
        for (Class<?> one : inside) {
            int modifiers = one.getModifiers();
            boolean isHidden = Modifier.isStatic(modifiers) && !Modifier.isPublic(modifiers) && !Modifier.isProtected(modifiers);
            CHECK.due("static and not public: " + one.getName(), isHidden ? 1 : 0, 1);
            for (Method method : one.getDeclaredMethods()) {
                CHECK.due("name of " + method, names.contains(method.getName()) ? 1 : 0, 0);
            }
        }
        CHECK.due("constructors", SelfScale.class.getDeclaredConstructors().length, 1);
        CHECK.due("one for all", SelfScale.class.getConstructors().length, 1);
        CHECK.due("final", Modifier.isFinal(SelfScale.class.getModifiers()) ? 1 : 0, 1);
    }

    private static void same(String what, Set<String> got, Set<String> want) {
        CHECK.due(what + " " + got + ", due " + want, got.equals(want) ? 1 : 0, 1);
    }
}
