import java.lang.reflect.Constructor;
import java.lang.reflect.Field;
import java.lang.reflect.Method;
import java.lang.reflect.Modifier;
import java.nio.file.Files;
import java.nio.file.Path;
import java.util.Set;
import java.util.TreeSet;
import java.util.regex.Matcher;
import java.util.regex.Pattern;

/** The face is the document's and no more; the source keeps to the rules that can be seen in its text. */
public final class FaceTest {
    private static final Path SOURCE = Path.of("src/main/java/TideBoats.java");
    private static final Path DOCUMENT = Path.of("../shared/DOC.md");
    private static final String FIELDS = "BAD_VALUE FULL NONE NOT_POSSIBLE UNKNOWN";
    private static final String METHODS = "afloat(int,int)float best()int boat(int,int,int)int boatOf(int,int)int "
        + "cellOf(int,int)int clearText()int count(int)int doAll()int fault()int floatsIn(int)int homeIn(int,int)int "
        + "inDanger(int)int keep()int move(int,int,int)int pause()int restore()int sand(int,int,boolean)int "
        + "set(int,int)int tide(int)int type(char)int undo()int why(int,int,int)int";
    private static final String[] NOT_ALLOWED = {
        "import ", "package ", "->", "::", "catch", "finally", "synchronized", "assert ", "System.", "Exact(",
        "instanceof", "static {", "new Object", "Double.", "Float.", "Thread", "protected "
    };

    public static void main(String[] args) throws Exception {
        Checks checks = new Checks();
        face(checks);
        classes(checks);
        faceOfDocument(checks);
        partsOfDocument(checks);
        source(checks);
        checks.end();
    }

    private static void face(Checks checks) {
        Class<TideBoats> type = TideBoats.class;
        checks.due("a public final class", type.getModifiers(), Modifier.PUBLIC | Modifier.FINAL);
        Set<String> methods = new TreeSet<>();
        for (Method method : type.getDeclaredMethods()) {
            if (!Modifier.isPrivate(method.getModifiers())) {
                methods.add(method.getName() + parameters(method.getParameterTypes()) + method.getReturnType());
            }
        }
        checks.dueText("the methods", String.join(" ", methods), METHODS);
        Set<String> fields = new TreeSet<>();
        for (Field field : type.getDeclaredFields()) {
            if (!Modifier.isPrivate(field.getModifiers())) {
                fields.add(field.getName());
            }
        }
        checks.dueText("the constants", String.join(" ", fields), FIELDS);
        Constructor<?>[] constructors = type.getDeclaredConstructors();
        checks.due("constructors", constructors.length, 1);
        checks.due("constructor's parameters", constructors[0].getParameterCount(), 0);
        for (Method method : type.getDeclaredMethods()) {
            boolean isOfFace = Modifier.isPublic(method.getModifiers());
            for (Method other : type.getDeclaredMethods()) {
                boolean isTwin = isOfFace && other.getName().equals(method.getName()) && !other.equals(method);
                checks.due("a twin of " + method.getName(), isTwin ? 1 : 0, 0);
            }
        }
    }

    /** The rules 1, 2 and 11 of LANGUAGE.md, as far as the classes show them. */
    private static void classes(Checks checks) {
        Class<?>[] inside = TideBoats.class.getDeclaredClasses();
        checks.due("at most twelve classes", inside.length < 12 ? 1 : 0, 1);
        sizes(checks, TideBoats.class);
        for (Class<?> type : inside) {
            int access = type.getModifiers();
            checks.due(type + " is static", Modifier.isStatic(access) ? 1 : 0, 1);
            checks.due(type + " is public or protected", access & (Modifier.PUBLIC | Modifier.PROTECTED), 0);
            checks.due("classes inside " + type, type.getDeclaredClasses().length, 0);
            sizes(checks, type);
        }
    }

    private static void sizes(Checks checks, Class<?> type) {
        int fields = 0;
        for (Field field : type.getDeclaredFields()) {
            boolean isOfClass = Modifier.isStatic(field.getModifiers());
            fields += isOfClass ? 0 : 1;
            checks.due(field + " is final or of an object", !isOfClass || Modifier.isFinal(field.getModifiers()) ? 1 : 0, 1);
        }
        checks.due("at most twenty fields in " + type, fields <= 20 ? 1 : 0, 1);
        for (Method method : type.getDeclaredMethods()) {
            checks.due("at most seven parameters of " + method, method.getParameterCount() <= 7 ? 1 : 0, 1);
            boolean bearsNameOfFace = !Modifier.isPublic(method.getModifiers())
                && (" " + METHODS).contains(" " + method.getName() + "(");
            checks.due(method + " bears a name of the face", bearsNameOfFace ? 1 : 0, 0);
        }
    }

    private static String parameters(Class<?>[] types) {
        StringBuilder text = new StringBuilder("(");
        for (int i = 0; i < types.length; i++) {
            text.append(i == 0 ? "" : ",").append(types[i]);
        }
        return text.append(")").toString();
    }

    /** Each line of the document's face stands in the source so, with the names of its arguments. */
    private static void faceOfDocument(Checks checks) throws Exception {
        String text = Files.readString(SOURCE);
        String document = Files.readString(DOCUMENT);
        int start = document.indexOf("```java\n");
        int end = document.indexOf("```\n", start + 1);
        checks.due("the face in the document", start >= 0 && end > start ? 1 : 0, 1);
        int lines = 0;
        for (String line : document.substring(start, end).split("\n")) {
            if (line.startsWith("    public ")) {
                String due = line.endsWith(");") ? line.substring(0, line.length() - 1) + " {" : line;
                checks.due("'" + due.strip() + "' in the source", text.contains("\n" + due + "\n") ? 1 : 0, 1);
                lines++;
            }
        }
        checks.due("lines of the face", lines, 5 + 1 + 22);
    }

    /** The parts of the interface stand in the source, each ahead of its calls and behind those of the last one. */
    private static void partsOfDocument(Checks checks) throws Exception {
        String text = Files.readString(SOURCE);
        Matcher part = Pattern.compile("Ahead of the calls (.*) the interface says: (---- .*)\\.")
            .matcher(Files.readString(DOCUMENT));
        int at = 0;
        int parts = 0;
        while (part.find()) {
            int title = text.indexOf("    // " + part.group(2) + "\n", at);
            checks.due("'" + part.group(2) + "' behind the part ahead of it", title > at ? 1 : 0, 1);
            at = Math.max(at, title);
            for (String call : part.group(1).replace("`", "").split(", ")) {
                int method = Math.max(text.indexOf("    public int " + call + "(", at),
                    text.indexOf("    public float " + call + "(", at));
                checks.due(call + " in its part, in its order", method > at ? 1 : 0, 1);
                at = Math.max(at, method);
            }
            parts++;
        }
        checks.due("parts of the interface", parts, 6);
    }

    private static void source(Checks checks) throws Exception {
        String text = Files.readString(SOURCE);
        for (String word : NOT_ALLOWED) {
            checks.due("'" + word + "' in the source", text.contains(word) ? 1 : 0, 0);
        }
        for (int i = 0; i < text.length(); i++) {
            if (text.charAt(i) > 126) {
                checks.due("the sign at " + i, text.charAt(i), 0);
            }
        }
    }
}
