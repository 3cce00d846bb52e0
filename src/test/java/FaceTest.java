import java.lang.reflect.Constructor;
import java.lang.reflect.Field;
import java.lang.reflect.Member;
import java.lang.reflect.Method;
import java.lang.reflect.Modifier;
import java.util.Arrays;
import java.util.Set;
import java.util.TreeSet;

/** The public face: its members as the document writes them, and no other that can be seen from outside. */
public final class FaceTest {
    private static final Set<String> FACE = new TreeSet<>(Arrays.asList(
        "public static final int ServoDesk.NONE",
        "public ServoDesk()",
        "public int ServoDesk.axis(int)",
        "public boolean ServoDesk.set(int,int,long)",
        "public long ServoDesk.bits(int,int)",
        "public int ServoDesk.orders(int,int)",
        "public boolean ServoDesk.follow(int,int)",
        "public int ServoDesk.order(int,int)"));

    public static void main(String[] args) {
        Due due = new Due("FaceTest");
        Set<String> seen = new TreeSet<>();
        for (Field field : ServoDesk.class.getDeclaredFields()) {
            addSeen(seen, field, field.toString());
        }
        for (Constructor<?> constructor : ServoDesk.class.getDeclaredConstructors()) {
            addSeen(seen, constructor, constructor.toString());
        }
        for (Method method : ServoDesk.class.getDeclaredMethods()) {
            addSeen(seen, method, method.toString());
            due.yes("no other method is named as " + method, FACE.contains(method.toString()) || !bearsFaceName(method));
        }
        due.yes("the members " + seen, seen.equals(FACE));
        due.same("public final", ServoDesk.class.getModifiers(), Modifier.PUBLIC | Modifier.FINAL);
        due.yes("extends Object alone",
            ServoDesk.class.getSuperclass() == Object.class && ServoDesk.class.getInterfaces().length == 0);
        for (Class<?> inside : ServoDesk.class.getDeclaredClasses()) {
            int modifiers = inside.getModifiers();
            due.yes(inside + " is static and not seen",
                Modifier.isStatic(modifiers) && !Modifier.isPublic(modifiers) && !Modifier.isProtected(modifiers));
            for (Method method : inside.getDeclaredMethods()) {
                due.no("a method of the face is named as " + method, bearsFaceName(method));
            }
        }
        due.same("NONE", ServoDesk.NONE, -1);
        due.end();
    }

    private static boolean bearsFaceName(Method method) {
        return FACE.stream().anyMatch(line -> line.contains("." + method.getName() + "("));
    }

    private static void addSeen(Set<String> seen, Member member, String text) {
        if (!Modifier.isPrivate(member.getModifiers()) && !member.isSynthetic()) {
            seen.add(text);
        }
    }
}
