import java.lang.reflect.Constructor;
import java.lang.reflect.Field;
import java.lang.reflect.Method;
import java.lang.reflect.Modifier;
import java.util.TreeSet;

/** The public face is the document's, whole, and no more. */
public final class FaceTest {
    private static final String[] FACE = {
        "NONE int public static final",
        "PacketHeads() public",
        "begin(int) void public",
        "band(int,int) int public",
        "first(int,int,int,int) void public",
        "bring(int,int,int) int public",
        "piece(int,int,int) int public",
        "write() int public",
        "put(int) int public",
        "at(int) int public",
        "clear() void public",
        "read(int,int) int public",
        "got(int,int,int) int public",
        "bytes(int,int,int) int public",
        "layers(int) int public",
    };

    public static void main(String[] args) {
        TreeSet<String> due = new TreeSet<>();
        for (String line : FACE) {
            due.add(line);
        }
        TreeSet<String> found = new TreeSet<>();
        Class<?> face = PacketHeads.class;
        for (Field f : face.getDeclaredFields()) {
            if (!Modifier.isPrivate(f.getModifiers())) {
                found.add(f.getName() + " " + f.getType() + " " + Modifier.toString(f.getModifiers()));
            }
        }
        for (Constructor<?> c : face.getDeclaredConstructors()) {
            found.add("PacketHeads(" + types(c.getParameterTypes()) + ") " + Modifier.toString(c.getModifiers()));
        }
        for (Method m : face.getDeclaredMethods()) {
            if (!Modifier.isPrivate(m.getModifiers())) {
                found.add(m.getName() + "(" + types(m.getParameterTypes()) + ") " + m.getReturnType() + " "
                        + Modifier.toString(m.getModifiers()));
            }
        }
        boolean right = found.equals(due) && Modifier.isFinal(face.getModifiers());
        if (!right) {
            System.out.println("the face is " + found + ", due is " + due);
            System.exit(1);
        }
        System.out.println("the face is as due");
    }

    private static String types(Class<?>[] types) {
        StringBuilder text = new StringBuilder();
        for (Class<?> type : types) {
            text.append(text.length() == 0 ? "" : ",").append(type);
        }
        return text.toString();
    }
}
