import java.io.IOException;
import java.lang.reflect.Constructor;
import java.lang.reflect.Field;
import java.lang.reflect.Method;
import java.lang.reflect.Modifier;
import java.nio.file.Files;
import java.nio.file.Path;
import java.util.ArrayList;
import java.util.Arrays;
import java.util.IdentityHashMap;
import java.util.List;
import java.util.Map;
import java.util.TreeSet;

/** The public face, the rules of the language that can be seen by a machine, and the room that a desk takes. */
public final class FaceTest {
    private static final String[] FACE = {
        "int feed(int,int,int,int,int)", "boolean end(int)", "int text()", "int fault()", "int now(int)",
        "int value(int,int,int)", "int rebased(int,int,int)", "int ratio(int,int,int) throws",
        "int contract(int,int)", "int price(int,int,int) throws", "int were(int,int,int)", "int rises(int,int)",
        "int delivery(int,int)", "long amount(int,int) throws", "long statement(int,int) throws",
        "int publish(int,int,int,boolean)", "int rebase(int,int,int)", "int deliver(int,int,int)", "int close()",
        "int undo()"};

    public static void main(String[] args) throws Exception {
        members();
        source();
        room();
        Checks.finish("FaceTest");
    }

    private static void members() {
        Checks.due("public final", PriceDesk.class.getModifiers(), Modifier.PUBLIC | Modifier.FINAL);
        TreeSet<String> face = new TreeSet<>();
        TreeSet<String> names = new TreeSet<>();
        for (Method method : PriceDesk.class.getDeclaredMethods()) {
            if (!Modifier.isPrivate(method.getModifiers())) {
                face.add(told(method));
                names.add(method.getName());
                Checks.due(method + " is public alone", method.getModifiers(), Modifier.PUBLIC);
            }
        }
        TreeSet<String> due = new TreeSet<>(Arrays.asList(FACE));
        Checks.due("face " + face, face.equals(due), true);
        List<Class<?>> classes = new ArrayList<>(List.of(PriceDesk.class.getDeclaredClasses()));
        Checks.due("classes", classes.size() < 12, true);
        classes.add(PriceDesk.class);
        for (Class<?> each : classes) {
            for (Method method : each.getDeclaredMethods()) {
                boolean isFace = Modifier.isPublic(method.getModifiers());
                Checks.due(method + " has a name of its own", !isFace && names.contains(method.getName()), false);
                Checks.due(method + " takes seven at most", method.getParameterCount() <= 7, true);
            }
        }
        for (Field field : PriceDesk.class.getDeclaredFields()) {
            boolean isNone = field.getName().equals("NONE");
            Checks.due(field + " is private", Modifier.isPrivate(field.getModifiers()), !isNone);
        }
        Constructor<?>[] constructors = PriceDesk.class.getDeclaredConstructors();
        Checks.due("one constructor", constructors.length, 1);
        Checks.due("of no parameter", constructors[0].getParameterCount(), 0);
    }

    private static String told(Method method) {
        StringBuilder told = new StringBuilder(method.getReturnType() + " " + method.getName() + "(");
        for (Class<?> parameter : method.getParameterTypes()) {
            told.append(told.charAt(told.length() - 1) == '(' ? "" : ",").append(parameter);
        }
        return told + ")" + (method.getExceptionTypes().length > 0 ? " throws" : "");
    }

    private static void source() throws IOException {
        String source = Files.readString(Path.of("src/main/java/PriceDesk.java"));
        String code = source.replaceAll("(?s)/\\*.*?\\*/", "").replaceAll("//[^\n]*", "");
        String[] never = {"catch", "try", "finally", "synchronized", "assert", "->", "::", "instanceof", "package",
            "System", "Exact", "static \\{", "protected", "var ", "Object", "Throwable"};
        for (String word : never) {
            boolean isWord = word.matches("[a-z]+");
            boolean stands = isWord ? code.matches("(?s).*\\b" + word + "\\b.*") : code.matches("(?s).*" + word + ".*");
            Checks.due("the source has " + word, stands, false);
        }
        Checks.due("one import", code.split("import ").length, 2);
        Checks.due("signs 1 to 127", source.chars().allMatch(sign -> sign >= 1 && sign <= 127), true);
    }

    /** What one desk holds, after a run as before it: the room is for all objects of a run. */
    private static void room() throws IllegalAccessException {
        PriceDesk desk = Checks.desk("month 1;index a 5 6;contract 8 = 0 + 1000 a base 0 all 0 share 100;");
        long[] ahead = counted(desk);
        for (int k = 0; k < 50; k++) {
            desk.deliver(0, desk.now(0), 5);
            desk.publish(0, desk.now(0), 5, true);
            desk.rises(0, 0);
            desk.close();
        }
        long[] behind = counted(desk);
        Checks.due("objects stay", behind[0], ahead[0]);
        Checks.due("objects", ahead[0] < 250, true);
        Checks.due("fields and elements", ahead[1] < 4000, true);
    }

    private static long[] counted(Object desk) throws IllegalAccessException {
        Map<Object, Object> seen = new IdentityHashMap<>();
        List<Object> open = new ArrayList<>(List.of(desk));
        seen.put(desk, desk);
        long elements = 0;
        for (int at = 0; at < open.size(); at++) {
            Object each = open.get(at);
            List<Object> parts = new ArrayList<>();
            if (each.getClass().isArray()) {
                elements += java.lang.reflect.Array.getLength(each);
                if (each instanceof Object[] row) {
                    parts.addAll(Arrays.asList(row));
                }
            } else {
                for (Field field : each.getClass().getDeclaredFields()) {
                    if (!Modifier.isStatic(field.getModifiers())) {
                        elements++;
                        field.setAccessible(true);
                        if (!field.getType().isPrimitive()) {
                            parts.add(field.get(each));
                        }
                    }
                }
            }
            for (Object part : parts) {
                if (part != null && seen.put(part, part) == null) {
                    open.add(part);
                }
            }
        }
        return new long[] {open.size(), elements};
    }
}
