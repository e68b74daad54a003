import java.lang.reflect.Constructor;
import java.lang.reflect.Field;
import java.lang.reflect.Method;
import java.lang.reflect.Modifier;
import java.nio.file.Files;
import java.nio.file.Path;
import java.util.Set;
import java.util.TreeSet;

/** The face is the document's and no more; the source keeps to the rules that can be seen in its text. */
public final class FaceTest {
    private static final String FIELDS = "BAD_VALUE FULL NONE NOT_POSSIBLE UNKNOWN";
    private static final String METHODS = "afloat(int,int)float best()int boat(int,int,int)int boatOf(int,int)int "
        + "cellOf(int,int)int clearText()int count(int)int doAll()int fault()int floatsIn(int)int homeIn(int,int)int "
        + "inDanger(int)int keep()int move(int,int,int)int pause()int restore()int sand(int,int,boolean)int "
        + "set(int,int)int tide(int)int type(char)int undo()int why(int,int,int)int";
    private static final String[] NOT_ALLOWED = {
        "import ", "package ", "->", "::", "catch", "finally", "synchronized", "assert ", "System.", "Exact(",
        "instanceof", "static {", "new Object", "Double.", "Float.", "Thread", "protected "
    };

    public static void main(String[] args) throws Exception {
        Checks checks = new Checks();
        face(checks);
        source(checks);
        checks.end();
    }

    private static void face(Checks checks) {
        Class<TideBoats> type = TideBoats.class;
        checks.due("a public final class", type.getModifiers(), Modifier.PUBLIC | Modifier.FINAL);
        Set<String> methods = new TreeSet<>();
        for (Method method : type.getDeclaredMethods()) {
            if (!Modifier.isPrivate(method.getModifiers())) {
                methods.add(method.getName() + parameters(method.getParameterTypes()) + method.getReturnType());
            }
        }
        checks.dueText("the methods", String.join(" ", methods), METHODS);
        Set<String> fields = new TreeSet<>();
        for (Field field : type.getDeclaredFields()) {
            if (!Modifier.isPrivate(field.getModifiers())) {
                fields.add(field.getName());
            }
        }
        checks.dueText("the constants", String.join(" ", fields), FIELDS);
        Constructor<?>[] constructors = type.getDeclaredConstructors();
        checks.due("constructors", constructors.length, 1);
        checks.due("constructor's parameters", constructors[0].getParameterCount(), 0);
        for (Method method : type.getDeclaredMethods()) {
            boolean isOfFace = Modifier.isPublic(method.getModifiers());
            for (Method other : type.getDeclaredMethods()) {
                boolean isTwin = isOfFace && other.getName().equals(method.getName()) && !other.equals(method);
                checks.due("a twin of " + method.getName(), isTwin ? 1 : 0, 0);
            }
        }
    }

    private static String parameters(Class<?>[] types) {
        StringBuilder text = new StringBuilder("(");
        for (int i = 0; i < types.length; i++) {
            text.append(i == 0 ? "" : ",").append(types[i]);
        }
        return text.append(")").toString();
    }

    private static void source(Checks checks) throws Exception {
        String text = Files.readString(Path.of("src/main/java/TideBoats.java"));
        for (String word : NOT_ALLOWED) {
            checks.due("'" + word + "' in the source", text.contains(word) ? 1 : 0, 0);
        }
        for (int i = 0; i < text.length(); i++) {
            if (text.charAt(i) > 126) {
                checks.due("the sign at " + i, text.charAt(i), 0);
            }
        }
    }
}
