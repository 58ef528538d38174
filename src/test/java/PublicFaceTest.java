import java.io.IOException;
import java.lang.reflect.Constructor;
import java.lang.reflect.Field;
import java.lang.reflect.Method;
import java.lang.reflect.Modifier;
import java.nio.file.Files;
import java.nio.file.Path;
import java.util.Set;
import java.util.StringJoiner;
import java.util.TreeSet;

/** The public face: just the constructor and the methods that stand in the document, with what they may throw. */
public final class PublicFaceTest {
    private static final Path DOCUMENT = Path.of("../shared/DOC.md");
    private static final Check CHECK = new Check();

    public static void main(String[] args) throws IOException {
        String text = Files.readString(DOCUMENT);
        String face = text.substring(text.indexOf("## The public face"), text.indexOf("## Description"));
        Set<String> due = new TreeSet<>();
        for (String line : face.split("\n")) {
            if (line.startsWith("    public ")) {
                due.add(withoutNames(line.trim()));
            }
        }
        CHECK.due("methods and constructors of the document", due.size(), 49);
        CHECK.due("the face", facesOf(Allstreets.class).toString(), due.toString());
        nothingElse();
        CHECK.end();
    }

    // "public int lay(int from, int to) throws E;" as "public int lay(int, int) throws E".
    private static String withoutNames(String line) {
        int open = line.indexOf('(');
        int shut = line.indexOf(')');
        StringJoiner kinds = new StringJoiner(", ");
        for (String parameter : line.substring(open + 1, shut).split(", ")) {
            kinds.add(parameter.split(" ")[0]);
        }
        return line.substring(0, open + 1) + kinds + line.substring(shut, line.length() - 1);
    }

    private static Set<String> facesOf(Class<?> one) {
        Set<String> all = new TreeSet<>();
        for (Constructor<?> maker : one.getDeclaredConstructors()) {
            all.add(headOf(maker.getModifiers(), one.getSimpleName(), maker.getParameterTypes(), maker.getExceptionTypes()));
        }
        for (Method method : one.getDeclaredMethods()) {
            if (!Modifier.isPrivate(method.getModifiers())) {
                String name = method.getReturnType().getSimpleName() + " " + method.getName();
                all.add(headOf(method.getModifiers(), name, method.getParameterTypes(), method.getExceptionTypes()));
            }
        }
        return all;
    }

    private static String headOf(int modifiers, String name, Class<?>[] kinds, Class<?>[] thrown) {
        String throwing = thrown.length == 0 ? "" : " throws " + namesOf(thrown);
        return Modifier.toString(modifiers) + " " + name + "(" + namesOf(kinds) + ")" + throwing;
    }

    private static String namesOf(Class<?>[] kinds) {
        StringJoiner names = new StringJoiner(", ");
        for (Class<?> kind : kinds) {
            names.add(kind.getSimpleName());
        }
        return names.toString();
    }

    private static void nothingElse() {
        CHECK.due("the class", Modifier.toString(Allstreets.class.getModifiers()), "public final");
        Set<String> open = new TreeSet<>();
        Set<String> hidden = new TreeSet<>();
        for (Method method : Allstreets.class.getDeclaredMethods()) {
            (Modifier.isPrivate(method.getModifiers()) ? hidden : open).add(method.getName());
        }
        hidden.retainAll(open);
        CHECK.due("private methods with the name of a public one", hidden.toString(), "[]");
        for (Field field : Allstreets.class.getDeclaredFields()) {
            CHECK.due(field.getName() + " is private", Modifier.isPrivate(field.getModifiers()), true);
        }
        for (Class<?> inside : Allstreets.class.getDeclaredClasses()) {
            int modifiers = inside.getModifiers();
            boolean isOpen = Modifier.isPublic(modifiers) || Modifier.isProtected(modifiers);
            CHECK.due(inside.getSimpleName() + " is private or package-visible, and static",
                !isOpen && Modifier.isStatic(modifiers), true);
        }
    }
}
