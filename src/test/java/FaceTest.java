import java.lang.reflect.Constructor;
import java.lang.reflect.Field;
import java.lang.reflect.Method;
import java.lang.reflect.Modifier;
import java.util.Set;
import java.util.TreeSet;

/** The public face is the document's, and nothing else can be seen. */
public final class FaceTest {
    private static final String[] FACE = {
        "feed(int,int,int,int,int)", "end(int)", "message(int,int,int,int)", "number(int,int,int)",
        "text(int,long,long)", "nonce(int,long)", "address(int,int,int)", "sign(long,long)", "finger()",
        "tape(int)", "alter(int,int)", "user(long,long)", "realm(long)", "fresh(long)", "part(int)",
        "forbid(int,int)", "tick(int)", "datagram(int,int)", "peer(int,int,int)", "sent(int)", "octet(int)",
        "attribute(int,int)", "allocation(int,int)", "permission(int,int)", "channel(int,int)", "count(int)"
    };

    public static void main(String[] args) {
        Checks.due("NONE", RelayHouse.NONE, -1);
        Checks.due("final", Modifier.isFinal(RelayHouse.class.getModifiers()) ? 1 : 0, 1);
        Set<String> seen = new TreeSet<>();
        for (Method m : RelayHouse.class.getDeclaredMethods()) {
            if (!Modifier.isPrivate(m.getModifiers())) {
                StringBuilder types = new StringBuilder();
                for (Class<?> type : m.getParameterTypes()) {
                    types.append(types.length() == 0 ? "" : ",").append(type.getName());
                }
                seen.add(m.getName() + "(" + types + ")");
                Checks.due(m + " answers an int", m.getReturnType() == int.class ? 1 : 0, 1);
                Checks.due(m + " is public", Modifier.isPublic(m.getModifiers()) ? 1 : 0, 1);
            }
        }
        Checks.due("methods are those of the face", seen.equals(new TreeSet<>(Set.of(FACE))) ? 1 : 0, 1);
        for (Field f : RelayHouse.class.getDeclaredFields()) {
            boolean visible = !Modifier.isPrivate(f.getModifiers());
            Checks.due(f + " is visible", visible ? 1 : 0, f.getName().equals("NONE") ? 1 : 0);
        }
        Constructor<?>[] made = RelayHouse.class.getDeclaredConstructors();
        Checks.due("constructors", made.length, 1);
        Checks.due("its parameters", made[0].getParameterCount(), 0);
        Checks.close();
    }
}
