import java.io.IOException;
import java.lang.reflect.Constructor;
import java.lang.reflect.Field;
import java.lang.reflect.Method;
import java.lang.reflect.Modifier;
import java.nio.file.Files;
import java.nio.file.Path;
import java.util.Arrays;
import java.util.Set;
import java.util.TreeSet;

/** The public face of the document, member for member, as it stands in the document itself. */
public final class FaceTest {
    public static void main(String[] args) throws IOException {
        String document = Files.readString(Path.of("../shared/DOC.md"));
        int start = document.indexOf("public final class GlacierCamera {");
        String[] lines = document.substring(start, document.indexOf("```", start)).split("\n");
        Set<String> due = new TreeSet<>();
        for (String line : lines) {
            String member = line.trim();
            if (member.startsWith("public static final int ")) {
                addConstants(due, member);
            } else if (member.startsWith("public ") && member.endsWith(";")) {
                due.add(withoutNames(member));
            }
        }
        Check.equal("members of the document", due.size(), 16 + 1 + 64);
        Set<String> got = visibleMembers();
        for (String member : due) {
            Check.equal("has " + member, got.contains(member), true);
        }
        for (String member : got) {
            Check.equal("may have " + member, due.contains(member), true);
        }
        Check.equal("the class is public and final", Modifier.toString(GlacierCamera.class.getModifiers()), "public final");
        namesOfPrivateMethods();
        Check.finish();
    }

    private static void addConstants(Set<String> due, String line) {
        for (String constant : line.substring("public static final int ".length(), line.length() - 1).split(", ")) {
            due.add("constant " + constant);
        }
    }

    /** A signature without the parameters' names. */
    private static String withoutNames(String signature) {
        return signature.replaceAll("(int|boolean) \\w+([,)])", "$1$2").replace(";", "");
    }

    private static Set<String> visibleMembers() {
        Set<String> members = new TreeSet<>();
        for (Field field : GlacierCamera.class.getDeclaredFields()) {
            if (!Modifier.isPrivate(field.getModifiers())) {
                members.add("constant " + field.getName() + " = " + valueOf(field));
            }
        }
        for (Constructor<?> constructor : GlacierCamera.class.getDeclaredConstructors()) {
            members.add(Modifier.toString(constructor.getModifiers()) + " GlacierCamera("
                + types(constructor.getParameterTypes()) + ")" + thrown(constructor.getExceptionTypes()));
        }
        for (Method method : GlacierCamera.class.getDeclaredMethods()) {
            if (!Modifier.isPrivate(method.getModifiers()) && !method.isSynthetic()) {
                members.add(Modifier.toString(method.getModifiers()) + " " + method.getReturnType() + " " + method.getName()
                    + "(" + types(method.getParameterTypes()) + ")" + thrown(method.getExceptionTypes()));
            }
        }
        return members;
    }

    private static Object valueOf(Field field) {
        try {
            boolean constant = Modifier.toString(field.getModifiers()).equals("public static final");
            return constant ? field.get(null) : "no constant";
        } catch (IllegalAccessException e) {
            return "not public";
        }
    }

    private static String types(Class<?>[] types) {
        return String.join(", ", Arrays.stream(types).map(Class::getSimpleName).toList());
    }

    private static String thrown(Class<?>[] types) {
        return types.length == 0 ? "" : " throws " + types(types);
    }

    private static void namesOfPrivateMethods() {
        Set<String> names = new TreeSet<>();
        for (Method method : GlacierCamera.class.getDeclaredMethods()) {
            if (Modifier.isPublic(method.getModifiers())) {
                names.add(method.getName());
            }
        }
        for (Class<?> inside : GlacierCamera.class.getDeclaredClasses()) {
            noneOf(names, inside);
        }
        noneOf(names, GlacierCamera.class);
    }

    private static void noneOf(Set<String> names, Class<?> owner) {
        for (Method method : owner.getDeclaredMethods()) {
            boolean face = Modifier.isPublic(method.getModifiers());
            Check.equal(owner.getSimpleName() + "." + method.getName() + " bears a public name",
                !face && names.contains(method.getName()), false);
        }
    }
}
