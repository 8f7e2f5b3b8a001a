import java.lang.reflect.Constructor;
import java.lang.reflect.Field;
import java.lang.reflect.Method;
import java.lang.reflect.Modifier;
import java.util.TreeSet;

/** The public face is the document's, whole, and no more. */
public final class FaceTest {
    private static final String[] FACE = {
        "NONE int public static final -1",
        "PacketHeads() public",
        "begin(int) void public throws IllegalArgumentException",
        "band(int,int) int public throws IllegalArgumentException, IllegalStateException",
        "first(int,int,int,int) void public throws IllegalArgumentException, IllegalStateException",
        "bring(int,int,int) int public throws IllegalArgumentException",
        "piece(int,int,int) int public throws IllegalArgumentException, IllegalStateException",
        "write() int public throws IllegalStateException, UnsupportedOperationException",
        "put(int) int public throws IllegalArgumentException, UnsupportedOperationException",
        "at(int) int public throws IndexOutOfBoundsException",
        "clear() void public",
        "read(int,int) int public throws IllegalArgumentException, IllegalStateException, "
                + "UnsupportedOperationException",
        "got(int,int,int) int public throws IllegalArgumentException",
        "bytes(int,int,int) int public throws IllegalArgumentException, IndexOutOfBoundsException",
        "layers(int) int public throws IllegalArgumentException",
    };

    public static void main(String[] args) throws IllegalAccessException {
        TreeSet<String> due = new TreeSet<>();
        for (String line : FACE) {
            due.add(line);
        }
        TreeSet<String> found = new TreeSet<>();
        Class<?> face = PacketHeads.class;
        for (Field f : face.getDeclaredFields()) {
            if (!Modifier.isPrivate(f.getModifiers())) {
                found.add(f.getName() + " " + f.getType() + " " + Modifier.toString(f.getModifiers())
                        + " " + f.get(null));
            }
        }
        for (Constructor<?> c : face.getDeclaredConstructors()) {
            found.add("PacketHeads(" + types(c.getParameterTypes()) + ") " + Modifier.toString(c.getModifiers())
                    + thrown(c.getExceptionTypes()));
        }
        for (Method m : face.getDeclaredMethods()) {
            if (!Modifier.isPrivate(m.getModifiers())) {
                found.add(m.getName() + "(" + types(m.getParameterTypes()) + ") " + m.getReturnType() + " "
                        + Modifier.toString(m.getModifiers()) + thrown(m.getExceptionTypes()));
            }
        }
        boolean right = found.equals(due) && Modifier.isFinal(face.getModifiers());
        if (!right) {
            System.out.println("the face is " + found + ", due is " + due);
            System.exit(1);
        }
        System.out.println("the face is as due");
    }

    private static String types(Class<?>[] types) {
        StringBuilder text = new StringBuilder();
        for (Class<?> type : types) {
            text.append(text.length() == 0 ? "" : ",").append(type);
        }
        return text.toString();
    }

    private static String thrown(Class<?>[] types) {
        StringBuilder text = new StringBuilder();
        for (Class<?> type : types) {
            text.append(text.length() == 0 ? " throws " : ", ").append(type.getSimpleName());
        }
        return text.toString();
    }
}
