import java.lang.reflect.Constructor;
import java.lang.reflect.Field;
import java.lang.reflect.Method;
import java.lang.reflect.Modifier;
import java.util.Set;
import java.util.TreeSet;

/** The public face is the document's, and nothing but private members stands beside it. */
public final class FaceTest {
    private static final Set<String> METHODS = Set.of(
            "int letter(int)", "int blank()", "int fault()", "int tower()", "int cube(int,int)",
            "int as(int,int)", "int wall(int,int)", "int turn(int,int)", "int paint(int,int,int)",
            "int swap(int,int)", "int be(int,int)", "int ways(int)", "int turning(int)",
            "int repaint()", "int odds(int)", "int see(int,int,boolean)", "int forget()",
            "int runs(int,int,int)", "int image()", "int restore()", "int count(int)",
            "long digest()");
    private static final Set<String> CONSTANTS = Set.of("NONE", "UNKNOWN", "OUTSIDE", "STATE", "FULL");

    private static final Check CHECK = new Check();

    private static String told(Method method) {
        StringBuilder text = new StringBuilder();
        text.append(method.getReturnType().getName()).append(' ').append(method.getName()).append('(');
        for (Class<?> type : method.getParameterTypes()) {
            text.append(text.charAt(text.length() - 1) == '(' ? "" : ",").append(type.getName());
        }
        return text.append(')').toString();
    }

    private static void methods() {
        Set<String> open = new TreeSet<>();
        Set<String> openNames = new TreeSet<>();
        Set<String> hiddenNames = new TreeSet<>();
        for (Method method : CubeTower.class.getDeclaredMethods()) {
            if (Modifier.isPrivate(method.getModifiers())) {
                hiddenNames.add(method.getName());
            } else {
                open.add(told(method));
                openNames.add(method.getName());
                CHECK.due("public " + told(method), method.getModifiers(), Modifier.PUBLIC);
            }
        }
        CHECK.due("methods " + open, open.equals(METHODS) ? 1 : 0, 1);
        hiddenNames.retainAll(openNames);
        CHECK.due("private methods with a public name " + hiddenNames, hiddenNames.size(), 0);
    }

    private static void fields() {
        Set<String> open = new TreeSet<>();
        for (Field field : CubeTower.class.getDeclaredFields()) {
            boolean hidden = Modifier.isPrivate(field.getModifiers());
            boolean constant = Modifier.isStatic(field.getModifiers());
            if (!hidden) {
                open.add(field.getName());
            }
            if (constant) {
                CHECK.due("final " + field.getName(), Modifier.isFinal(field.getModifiers()) ? 1 : 0, 1);
            }
        }
        CHECK.due("constants " + open, open.equals(CONSTANTS) ? 1 : 0, 1);
        CHECK.due("NONE", CubeTower.NONE, -1);
        CHECK.due("UNKNOWN", CubeTower.UNKNOWN, -101);
        CHECK.due("OUTSIDE", CubeTower.OUTSIDE, -102);
        CHECK.due("STATE", CubeTower.STATE, -103);
        CHECK.due("FULL", CubeTower.FULL, -104);
    }

    private static void classes() {
        CHECK.due("public final", CubeTower.class.getModifiers(), Modifier.PUBLIC | Modifier.FINAL);
        Constructor<?>[] constructors = CubeTower.class.getDeclaredConstructors();
        CHECK.due("constructors", constructors.length, 1);
        CHECK.due("its parameters", constructors[0].getParameterCount(), 0);
        CHECK.due("it is public", constructors[0].getModifiers(), Modifier.PUBLIC);
        for (Class<?> inside : CubeTower.class.getDeclaredClasses()) {
            CHECK.due("static " + inside, Modifier.isStatic(inside.getModifiers()) ? 1 : 0, 1);
        }
    }

    public static void main(String[] args) {
        methods();
        fields();
        classes();
        CHECK.end();
    }
}
