import java.io.IOException;
import java.lang.reflect.Array;
import java.lang.reflect.Constructor;
import java.lang.reflect.Field;
import java.lang.reflect.Member;
import java.lang.reflect.Method;
import java.lang.reflect.Modifier;
import java.nio.file.Files;
import java.nio.file.Path;
import java.util.ArrayDeque;
import java.util.Collections;
import java.util.IdentityHashMap;
import java.util.List;
import java.util.Set;
import java.util.TreeSet;

/** The face is the document's and no more; the file keeps to the rules that can be seen; the room is small. */
public final class FaceTest {
    private static final Due DUE = new Due();
    private static final List<String> FACE = List.of("int feed(long, long, long)", "int shader()", "int set(int, int, int)",
        "int cell(int, int)", "int rule(int)", "boolean narrow(int, int, int)", "int input(int, int)", "int value(int, int)",
        "int range(int, int)", "int is(int, int)", "int differs(int)", "int shown(int)", "int walked(int, int)",
        "int ran(int, int)", "long all(int)", "long kin(int, int)", "int order(int)", "int place(int, int)",
        "int pressure(int)", "int at(int, int)", "int used(int)", "int clause(int, int)", "int by(int, int)",
        "int alone(int, int)", "int narrowed(int, int, int, int)", "int swapped(int, int)", "int best()", "int parts(int)",
        "int count(int)");

    public static void main(String[] args) throws Exception {
        face();
        rules();
        room();
        DUE.end();
    }

    private static void face() {
        Class<?> type = ShaderReady.class;
        DUE.holds("public and final", Modifier.isPublic(type.getModifiers()) && Modifier.isFinal(type.getModifiers()));
        Set<String> names = new TreeSet<>();
        Set<String> face = new TreeSet<>();
        for (Method method : type.getDeclaredMethods()) {
            if (!Modifier.isPrivate(method.getModifiers())) {
                face.add(told(method));
                names.add(method.getName());
            }
        }
        DUE.holds("methods " + face, face.equals(new TreeSet<>(FACE)));
        Constructor<?>[] constructors = type.getDeclaredConstructors();
        DUE.holds("one public constructor", constructors.length == 1 && Modifier.isPublic(constructors[0].getModifiers()));
        for (Field field : type.getDeclaredFields()) {
            DUE.holds("field " + field, Modifier.isPrivate(field.getModifiers()) || field.getName().equals("NONE"));
            staticIsFinal(field);
        }
        for (Class<?> inner : type.getDeclaredClasses()) {
            DUE.holds("class " + inner, Modifier.isStatic(inner.getModifiers()));
            int fields = 0;
            for (Field field : inner.getDeclaredFields()) {
                fields += Modifier.isStatic(field.getModifiers()) ? 0 : 1;
                staticIsFinal(field);
            }
            DUE.holds("fields of " + inner, fields <= 20);
            for (Method method : inner.getDeclaredMethods()) {
                DUE.holds("name of " + method, !names.contains(method.getName()) && method.getParameterCount() <= 7);
            }
        }
        for (Method method : type.getDeclaredMethods()) {
            boolean twice = Modifier.isPrivate(method.getModifiers()) && names.contains(method.getName());
            DUE.holds("name of " + method, !twice && method.getParameterCount() <= 7);
        }
        DUE.holds("classes", type.getDeclaredClasses().length <= 12);
    }

    private static void staticIsFinal(Member field) {
        DUE.holds("static " + field, !Modifier.isStatic(field.getModifiers()) || Modifier.isFinal(field.getModifiers()));
    }

    private static String told(Method method) {
        StringBuilder text = new StringBuilder(method.getReturnType() + " " + method.getName() + "(");
        for (Class<?> type : method.getParameterTypes()) {
            text.append(text.charAt(text.length() - 1) == '(' ? "" : ", ").append(type);
        }
        return text.append(")").toString();
    }

    private static void rules() throws IOException {
        List<String> lines = Files.readAllLines(Path.of("src/main/java/ShaderReady.java"));
        int begin = 0;
        for (int i = 0; i < lines.size(); i++) {
            String line = lines.get(i);
            for (String banned : List.of("package ", "->", "::", "finally", "synchronized", "assert ", "catch", "Exact(", "\" +",
                "+ \"", "System.out", "System.nano", "System.current", "Random", "protected ")) {
                DUE.holds(banned + " in line " + (i + 1), !line.contains(banned));
            }
            DUE.holds("import in line " + (i + 1),
                !line.startsWith("import ") || line.equals("import java.util.NoSuchElementException;"));
            boolean head = line.matches("    (    )?[a-zA-Z].*\\) (throws \\w+ )?\\{");
            if (head) {
                begin = i;
            }
            if (line.equals("    }") || line.equals("        }")) {
                DUE.holds("the method in line " + (begin + 1) + " is short", i - begin <= 60 || begin == 0);
                begin = 0;
            }
        }
    }

    /** Counts what hangs on an object: calls keep and make no more than what it had, but for best's row. */
    private static void room() throws IllegalAccessException {
        ShaderReady x = new ShaderReady();
        long before = elements(x);
        DUE.holds("a new object's room: " + before, before < 14000);
        Due.shader(x, "lane a 0 9;b is copy a;times 9;b is add b a;end;b is sub b a;b is sub b a;show b;");
        DUE.due("best of 12", x.best(), 2);
        x.by(1, 1);
        x.narrowed(0, 0, 5, 1);
        x.swapped(3, 0);
        long behind = elements(x);
        DUE.holds("its room then: " + behind, behind <= before + 4096);
    }

    private static long elements(Object root) throws IllegalAccessException {
        Set<Object> seen = Collections.newSetFromMap(new IdentityHashMap<>());
        ArrayDeque<Object> open = new ArrayDeque<>(List.of(root));
        long sum = 0;
        while (!open.isEmpty()) {
            Object object = open.remove();
            if (!seen.add(object)) {
                continue;
            }
            sum++;
            if (object.getClass().isArray()) {
                sum += Array.getLength(object);
                for (int i = 0; i < Array.getLength(object) && !object.getClass().getComponentType().isPrimitive(); i++) {
                    open.add(Array.get(object, i));
                }
                continue;
            }
            for (Field field : object.getClass().getDeclaredFields()) {
                if (!Modifier.isStatic(field.getModifiers())) {
                    field.setAccessible(true);
                    sum++;
                    if (!field.getType().isPrimitive()) {
                        open.add(field.get(object));
                    }
                }
            }
        }
        return sum;
    }
}
