import java.io.IOException;
import java.lang.reflect.Constructor;
import java.lang.reflect.Field;
import java.lang.reflect.Method;
import java.lang.reflect.Modifier;
import java.nio.file.Files;
import java.nio.file.Path;
import java.util.Set;
import java.util.TreeSet;
import java.util.regex.Matcher;
import java.util.regex.Pattern;

/** The public face is the document's, and nothing else can be seen. */
public final class FaceTest {
    private static final Path DOCUMENT = Path.of("../shared/DOC.md");
    private static final String[] FACE = {
        "feed(int,int,int,int,int)", "end(int)", "message(int,int,int,int)", "number(int,int,int)",
        "text(int,long,long)", "nonce(int,long)", "address(int,int,int)", "sign(long,long)", "finger()",
        "tape(int)", "alter(int,int)", "user(long,long)", "realm(long)", "fresh(long)", "part(int)",
        "forbid(int,int)", "tick(int)", "datagram(int,int)", "peer(int,int,int)", "sent(int)", "octet(int)",
        "attribute(int,int)", "allocation(int,int)", "permission(int,int)", "channel(int,int)", "count(int)"
    };

    public static void main(String[] args) throws IOException {
        Checks.due("the document's lines", told().equals(new TreeSet<>(Set.of(FACE))) ? 1 : 0, 1);
        Checks.due("NONE", RelayHouse.NONE, -1);
        Checks.due("final", Modifier.isFinal(RelayHouse.class.getModifiers()) ? 1 : 0, 1);
        Set<String> seen = new TreeSet<>();
        for (Method m : RelayHouse.class.getDeclaredMethods()) {
            if (!Modifier.isPrivate(m.getModifiers())) {
                StringBuilder types = new StringBuilder();
                for (Class<?> type : m.getParameterTypes()) {
                    types.append(types.length() == 0 ? "" : ",").append(type.getName());
                }
                seen.add(m.getName() + "(" + types + ")");
                Checks.due(m + " answers an int", m.getReturnType() == int.class ? 1 : 0, 1);
                Checks.due(m + " is public", Modifier.isPublic(m.getModifiers()) ? 1 : 0, 1);
            }
        }
        Checks.due("methods are those of the face", seen.equals(new TreeSet<>(Set.of(FACE))) ? 1 : 0, 1);
        for (Field f : RelayHouse.class.getDeclaredFields()) {
            boolean visible = !Modifier.isPrivate(f.getModifiers());
            Checks.due(f + " is visible", visible ? 1 : 0, f.getName().equals("NONE") ? 1 : 0);
        }
        Constructor<?>[] made = RelayHouse.class.getDeclaredConstructors();
        Checks.due("constructors", made.length, 1);
        Checks.due("its parameters", made[0].getParameterCount(), 0);
        Checks.close();
    }

    /** The methods of the face as the document writes them, without the parameters' names. */
    private static Set<String> told() throws IOException {
        if (!Files.isReadable(DOCUMENT)) {
            System.out.println(DOCUMENT + " is not here: the face is not looked up");
            return new TreeSet<>(Set.of(FACE));
        }
        Set<String> told = new TreeSet<>();
        for (String line : Files.readAllLines(DOCUMENT)) {
            Matcher method = Pattern.compile(" {4}public int (\\w+)\\(([^)]*)\\);").matcher(line);
            if (method.matches()) {
                told.add(method.group(1) + "(" + method.group(2).replaceAll(" \\w+(,|$) ?", "$1") + ")");
            }
        }
        return told;
    }
}
