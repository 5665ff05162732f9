import java.io.IOException;
import java.lang.reflect.Constructor;
import java.lang.reflect.Field;
import java.lang.reflect.Method;
import java.lang.reflect.Modifier;
import java.nio.file.Files;
import java.nio.file.Path;
import java.util.List;
import java.util.TreeSet;

/** The face is the document's, and the source keeps to those rules of LANGUAGE.md that can be seen in its words. */
public final class FaceTest {
    private static final List<String> METHODS = List.of(
            "int addRail(int int int int) IllegalArgumentException IllegalStateException",
            "int set(int int int) IndexOutOfBoundsException IllegalArgumentException",
            "int setNeeds(int int) IndexOutOfBoundsException IllegalArgumentException IllegalStateException",
            "int setResidue(int) IllegalArgumentException",
            "int on(int) IllegalArgumentException",
            "int off(int) IllegalArgumentException",
            "int restart(int) IndexOutOfBoundsException IllegalStateException",
            "int shortCircuit(int int) IndexOutOfBoundsException IllegalArgumentException",
            "int stick(int int) IndexOutOfBoundsException IllegalArgumentException",
            "int tick(int) IllegalArgumentException IllegalStateException",
            "int append(int) IllegalArgumentException IllegalStateException",
            "int clearBuffer()",
            "int firstError()",
            "int load() IllegalArgumentException IllegalStateException",
            "int undo() IllegalStateException",
            "int rail(int int) IndexOutOfBoundsException IllegalArgumentException",
            "int account(int int) IndexOutOfBoundsException IllegalArgumentException",
            "int entry(int int) IllegalArgumentException",
            "int forget(int) IndexOutOfBoundsException",
            "int count(int) IllegalArgumentException",
            "int allGoodIn()",
            "int allOffIn()",
            "int ifShort(int int int) IndexOutOfBoundsException IllegalArgumentException",
            "int leastPatience(int) IndexOutOfBoundsException",
            "double goodShare()",
            "long digest()");
    private static final List<String> RULED_OUT = List.of("import ", "package ", "->", "::", "catch", "finally",
            "Exact(", "static {", "synchronized", "assert ", "Object", "System.out", "Double", "while (true)");

    public static void main(String[] args) throws IOException {
        TreeSet<String> wrong = new TreeSet<>();
        face(wrong);
        inside(wrong);
        words(wrong);
        wrong.forEach(System.out::println);
        System.out.println(wrong.isEmpty() ? "the face is as due" : "the face is not as due");
        if (!wrong.isEmpty()) {
            System.exit(1);
        }
    }

    private static void face(TreeSet<String> wrong) {
        TreeSet<String> names = new TreeSet<>();
        TreeSet<String> seen = new TreeSet<>();
        for (Method method : RailSequence.class.getDeclaredMethods()) {
            if (Modifier.isPublic(method.getModifiers())) {
                seen.add(textOf(method));
                names.add(method.getName());
            }
        }
        for (Method method : RailSequence.class.getDeclaredMethods()) {
            boolean isPublic = Modifier.isPublic(method.getModifiers());
            if (!isPublic && !Modifier.isPrivate(method.getModifiers())) {
                wrong.add("neither public nor private: " + method);
            }
            if (!isPublic && names.contains(method.getName())) {
                wrong.add("a private method with a public one's name: " + method);
            }
        }
        if (!seen.equals(new TreeSet<>(METHODS))) {
            wrong.add("public methods: " + seen);
        }
        Constructor<?>[] constructors = RailSequence.class.getDeclaredConstructors();
        if (constructors.length != 1 || constructors[0].getParameterCount() != 0
                || !Modifier.isPublic(constructors[0].getModifiers())) {
            wrong.add("constructors: " + List.of(constructors));
        }
        int modifiers = RailSequence.class.getModifiers();
        if (!Modifier.isPublic(modifiers) || !Modifier.isFinal(modifiers)) {
            wrong.add("the class is not public and final");
        }
    }

    private static String textOf(Method method) {
        StringBuilder text = new StringBuilder(method.getReturnType() + " " + method.getName() + "(");
        String gap = "";
        for (Class<?> type : method.getParameterTypes()) {
            text.append(gap).append(type.getSimpleName());
            gap = " ";
        }
        text.append(')');
        for (Class<?> type : method.getExceptionTypes()) {
            text.append(' ').append(type.getSimpleName());
        }
        return text.toString();
    }

    private static void inside(TreeSet<String> wrong) {
        for (Field field : RailSequence.class.getDeclaredFields()) {
            boolean isNone = field.getName().equals("NONE");
            int due = isNone ? Modifier.PUBLIC : Modifier.PRIVATE;
            if ((field.getModifiers() & due) == 0) {
                wrong.add("field: " + field);
            }
            if (Modifier.isStatic(field.getModifiers()) && !Modifier.isFinal(field.getModifiers())) {
                wrong.add("static and not final: " + field);
            }
        }
        for (Class<?> nested : RailSequence.class.getDeclaredClasses()) {
            if (Modifier.isPublic(nested.getModifiers()) || !Modifier.isStatic(nested.getModifiers())) {
                wrong.add("class inside: " + nested);
            }
        }
    }

    private static void words(TreeSet<String> wrong) throws IOException {
        String source = Files.readString(Path.of("src/main/java/RailSequence.java"));
        for (String line : source.split("\n")) {
            String code = line.replaceAll("/\\*\\*.*", "").replaceAll("//.*", "");
            for (String word : RULED_OUT) {
                if (code.contains(word)) {
                    wrong.add("ruled out: " + line.trim());
                }
            }
        }
        if (!source.chars().allMatch(c -> c > 0 && c < 128)) {
            wrong.add("a sign above 127");
        }
    }
}
