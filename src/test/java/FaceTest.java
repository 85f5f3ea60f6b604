import java.io.IOException;
import java.lang.reflect.Constructor;
import java.lang.reflect.Field;
import java.lang.reflect.Method;
import java.lang.reflect.Modifier;
import java.nio.file.Files;
import java.nio.file.Path;
import java.util.Set;
import java.util.TreeSet;
import java.util.regex.Matcher;
import java.util.regex.Pattern;

/** The face of the class is the one that the document shows, and there is nothing beside it. */
public final class FaceTest {
    private static final Due due = new Due();

    public static void main(String[] args) throws IOException, ReflectiveOperationException {
        Set<String> face = new TreeSet<>();
        Matcher lines = Pattern.compile("^    public (.*);$", Pattern.MULTILINE).matcher(Files.readString(Path.of("../shared/DOC.md")));
        while (lines.find()) {
            face.add(lines.group(1).replaceAll("(\\w+) \\w+(?=[,)])", "$1"));
        }
        due.is("members that the document shows", face.size(), 59);
        due.same("the face", members().toString(), face.toString());
        due.same("the class", Modifier.toString(RowsOnlyPrimes.class.getModifiers()), "public final");
        due.end("FaceTest");
    }

    /** All that isn't private, told as the document tells it. */
    private static Set<String> members() throws ReflectiveOperationException {
        Set<String> members = new TreeSet<>();
        for (Field f : RowsOnlyPrimes.class.getDeclaredFields()) {
            if (!Modifier.isPrivate(f.getModifiers())) {
                members.add(Modifier.toString(f.getModifiers()).replace("public ", "") + " " + f.getType() + " " + f.getName() + " = "
                    + f.get(null));
            }
        }
        for (Constructor<?> c : RowsOnlyPrimes.class.getDeclaredConstructors()) {
            members.add(open(c.getModifiers()) + c.getName() + parameters(c.getParameterTypes()));
        }
        for (Method m : RowsOnlyPrimes.class.getDeclaredMethods()) {
            if (!Modifier.isPrivate(m.getModifiers())) {
                members.add(open(m.getModifiers()) + m.getReturnType() + " " + m.getName() + parameters(m.getParameterTypes()));
            }
        }
        return members;
    }

    private static String open(int modifiers) {
        return Modifier.isPublic(modifiers) ? "" : "not public: ";
    }

    private static String parameters(Class<?>[] types) {
        StringBuilder text = new StringBuilder("(");
        for (Class<?> type : types) {
            text.append(text.length() > 1 ? ", " : "").append(type);
        }
        return text.append(")").toString();
    }
}
