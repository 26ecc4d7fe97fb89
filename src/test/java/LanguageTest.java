import java.io.IOException;
import java.lang.reflect.Field;
import java.lang.reflect.Method;
import java.lang.reflect.Modifier;
import java.nio.file.Files;
import java.nio.file.Path;
import java.util.Set;
import java.util.TreeSet;
import java.util.regex.Matcher;
import java.util.regex.Pattern;

/** Those rules of LANGUAGE.md that can be seen without reading it all: 1, 2, 5, 6, 11. */
public final class LanguageTest {
    private static final Pattern RULED_OUT = Pattern.compile(
            "\\b(throw|throws|try|catch|synchronized|assert|import|package|volatile|native)\\b|->|::|Exact\\(");

    public static void main(String[] args) throws IOException {
        String source = Files.readString(Path.of("src/main/java/RelayHouse.java"))
                .replaceAll("(?s)/\\*.*?\\*/", "").replaceAll("//[^\n]*", "");
        Matcher found = RULED_OUT.matcher(source);
        while (found.find()) {
            Checks.due("ruled out: " + found.group(), 1, 0);
        }
        shortMethods(source.split("\n"));
        Set<String> face = new TreeSet<>();
        for (Method m : RelayHouse.class.getDeclaredMethods()) {
            face.add(m.getName());
        }
        Class<?>[] inside = RelayHouse.class.getDeclaredClasses();
        Checks.due("some twelve classes", inside.length <= 11 ? 1 : 0, 1);
        for (Class<?> one : inside) {
            Checks.due(one + " is static", Modifier.isStatic(one.getModifiers()) ? 1 : 0, 1);
            for (Method m : one.getDeclaredMethods()) {
                Checks.due(m + " has a name of the face", face.contains(m.getName()) ? 1 : 0, 0);
                Checks.due(m + " has seven parameters at most", m.getParameterCount() <= 7 ? 1 : 0, 1);
            }
            int fields = 0;
            for (Field f : one.getDeclaredFields()) {
                boolean isStatic = Modifier.isStatic(f.getModifiers());
                fields += isStatic ? 0 : 1;
                Checks.due(f + " is final if static", !isStatic || Modifier.isFinal(f.getModifiers()) ? 1 : 0, 1);
            }
            Checks.due(one + " has some twenty fields at most", fields <= 20 ? 1 : 0, 1);
        }
        Checks.close();
    }

    // A method ends by the first brace that stands as far in as its head.
    private static void shortMethods(String[] lines) {
        Pattern head = Pattern.compile("( {4}| {8})(?! )[\\w<>\\[\\] ]*\\w+\\(.*\\{");
        int methods = 0;
        for (int i = 0; i < lines.length; i++) {
            Matcher found = head.matcher(lines[i]);
            if (found.matches() && !lines[i].strip().matches("(if|for|while|switch) .*")) {
                int end = i;
                while (end < lines.length && !lines[end].equals(found.group(1) + "}")) {
                    end++;
                }
                methods++;
                Checks.due(lines[i].strip() + " has some sixty lines at most", end - i <= 60 ? 1 : 0, 1);
            }
        }
        Checks.due("methods are seen", methods > 100 ? 1 : 0, 1);
    }
}
