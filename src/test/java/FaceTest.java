import java.lang.reflect.Constructor;
import java.lang.reflect.Field;
import java.lang.reflect.Method;
import java.lang.reflect.Modifier;
import java.util.Arrays;
import java.util.HashSet;
import java.util.Set;
import java.util.TreeSet;

/** The public face: just the members that the document names, and no others that can be seen. */
public final class FaceTest {
    private static final String[] FACE = {
        "int length(int)", "int bend(int,int,int)", "long aside(int)", "int peg(int,int)",
        "int mast(int,int)", "int fell(int)", "int clear()", "int about(int,int)",
        "int bow(int,int,int,int,int)", "long off(int,int)", "int kept(int)", "int worst()",
        "int spanKept(int)", "int ways(int,int,int)", "int carrier(int,int,int,int,int)",
        "long sag(int,int,int)", "long dropper(int,int,int)", "int cut(int,int)",
        "long bears(int,int)", "int shortOne()", "long heat(int,int,int)", "int choose(int)",
        "int price()", "int bars(int,int,int)", "int told(int)"};

    public static void main(String[] args) throws Exception {
        Due due = new Due();
        methods(due);
        fields(due);
        constructors(due);
        due.isTrue("the class is final", Modifier.isFinal(WireRow.class.getModifiers()));
        due.isTrue("the class is public", Modifier.isPublic(WireRow.class.getModifiers()));
        for (Class<?> inside : WireRow.class.getDeclaredClasses()) {
            due.isTrue(inside + " is static", Modifier.isStatic(inside.getModifiers()));
            due.isTrue(inside + " is not public", !Modifier.isPublic(inside.getModifiers()));
            due.isTrue(inside + " is not protected", !Modifier.isProtected(inside.getModifiers()));
        }
        due.end();
    }

    private static String text(Method method) {
        StringBuilder text = new StringBuilder();
        text.append(method.getReturnType().getName()).append(' ').append(method.getName()).append('(');
        String between = "";
        for (Class<?> type : method.getParameterTypes()) {
            text.append(between).append(type.getName());
            between = ",";
        }
        return text.append(')').toString();
    }

    private static void methods(Due due) {
        Set<String> seen = new TreeSet<>();
        Set<String> names = new HashSet<>();
        for (String method : FACE) {
            names.add(method.substring(method.indexOf(' ') + 1, method.indexOf('(')));
        }
        for (Method method : WireRow.class.getDeclaredMethods()) {
            if (Modifier.isPrivate(method.getModifiers())) {
                due.isTrue(method + " has a name of its own", !names.contains(method.getName()));
                continue;
            }
            due.isTrue(method + " is public", Modifier.isPublic(method.getModifiers()));
            due.isTrue(method + " is no static one", !Modifier.isStatic(method.getModifiers()));
            seen.add(text(method));
        }
        due.isTrue("the methods are those of the document: " + seen, seen.equals(new TreeSet<>(Arrays.asList(FACE))));
    }

    private static void fields(Due due) throws Exception {
        String[] names = {"NONE", "UNKNOWN", "OUTSIDE", "STATE", "FULL", "NO", "LOST"};
        long[] values = {-6, -1, -2, -3, -4, -5, -1000000000000000L};
        Set<String> seen = new HashSet<>();
        for (Field field : WireRow.class.getDeclaredFields()) {
            if (Modifier.isStatic(field.getModifiers())) {
                due.isTrue(field + " is final", Modifier.isFinal(field.getModifiers()));
            }
            if (!Modifier.isPrivate(field.getModifiers())) {
                due.isTrue(field + " is public", Modifier.isPublic(field.getModifiers()));
                seen.add(field.getName());
            }
        }
        due.isTrue("the constants are those of the document: " + seen, seen.equals(new HashSet<>(Arrays.asList(names))));
        for (int i = 0; i < names.length; i++) {
            Field field = WireRow.class.getField(names[i]);
            due.is(names[i], field.getLong(null), values[i]);
            due.isTrue(names[i] + " has its type", field.getType() == (names[i].equals("LOST") ? long.class : int.class));
        }
    }

    private static void constructors(Due due) {
        Constructor<?>[] all = WireRow.class.getDeclaredConstructors();
        due.is("constructors", all.length, 1);
        due.isTrue("it is public", Modifier.isPublic(all[0].getModifiers()));
        due.is("its parameters", all[0].getParameterCount(), 0);
    }
}
