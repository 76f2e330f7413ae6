import java.io.IOException;
import java.lang.reflect.Constructor;
import java.lang.reflect.Field;
import java.lang.reflect.Method;
import java.lang.reflect.Modifier;
import java.nio.charset.StandardCharsets;
import java.nio.file.Files;
import java.nio.file.Path;
import java.util.Set;
import java.util.TreeSet;

/** The class has the public face that DOC.md writes out, and no member more that others see. */
public final class FaceTest {
    private static final Path DOC = Path.of("..", "shared", "DOC.md");
    private static final String HEADING = "## The public face";

    private FaceTest() {
    }

    public static void main(String[] args) throws IOException, IllegalAccessException {
        Due due = new Due();
        Set<String> told = told();
        Set<String> there = there();
        for (String member : told) {
            due.is("the class has " + member, there.contains(member) ? 1 : 0, 1);
        }
        for (String member : there) {
            due.is("the document has " + member, told.contains(member) ? 1 : 0, 1);
        }
        due.is("the class, NONE and one member for each promise are told", told.size(), 2 + Doc.PROMISES);
        due.end();
    }

    /** The lines of the face, parameters by their types alone. */
    private static Set<String> told() throws IOException {
        String all = Files.readString(DOC, StandardCharsets.UTF_8);
        int start = all.indexOf("```java", all.indexOf(HEADING));
        int end = all.indexOf("```", start + 3);
        Set<String> members = new TreeSet<>();
        for (String line : all.substring(start, end).split("\n")) {
            String member = line.trim();
            if (member.startsWith("public")) {
                members.add(member.replaceAll("(int|long) \\w+([,)])", "$1$2").replaceAll(" \\{$|;$", ""));
            }
        }
        return members;
    }

    private static Set<String> there() throws IllegalAccessException {
        Set<String> members = new TreeSet<>();
        Class<?> type = TornLayers.class;
        members.add(Modifier.toString(type.getModifiers()) + " class " + type.getName());
        for (Field field : type.getDeclaredFields()) {
            if (isSeen(field.getModifiers(), field.isSynthetic())) {
                members.add(start(field.getModifiers(), field.getType()) + " " + field.getName() + " = "
                        + field.get(null));
            }
        }
        for (Constructor<?> constructor : type.getDeclaredConstructors()) {
            if (isSeen(constructor.getModifiers(), constructor.isSynthetic())) {
                members.add(Modifier.toString(constructor.getModifiers()) + " " + type.getName()
                        + types(constructor.getParameterTypes()));
            }
        }
        for (Method method : type.getDeclaredMethods()) {
            if (isSeen(method.getModifiers(), method.isSynthetic())) {
                members.add(start(method.getModifiers(), method.getReturnType()) + " " + method.getName()
                        + types(method.getParameterTypes()));
            }
        }
        return members;
    }

    private static boolean isSeen(int modifiers, boolean synthetic) {
        return !synthetic && !Modifier.isPrivate(modifiers);
    }

    private static String start(int modifiers, Class<?> type) {
        return Modifier.toString(modifiers) + " " + type.getName();
    }

    private static String types(Class<?>[] types) {
        StringBuilder all = new StringBuilder("(");
        for (Class<?> type : types) {
            all.append(all.length() > 1 ? ", " : "").append(type.getName());
        }
        return all.append(")").toString();
    }
}
