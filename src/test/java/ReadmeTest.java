import java.io.IOException;
import java.lang.reflect.InvocationTargetException;
import java.lang.reflect.Method;
import java.lang.reflect.Modifier;
import java.nio.file.Files;
import java.nio.file.Path;
import java.util.Arrays;
import java.util.List;
import java.util.TreeSet;
import java.util.regex.Matcher;
import java.util.regex.Pattern;
import java.util.stream.Stream;

/** README.md tells the truth: its calls answer what it says, and it leaves out no method and no test. */
public final class ReadmeTest {
    private static final int LEAST_CALLS = 25;
    private static final Pattern CALL = Pattern.compile("x\\.(\\w+)\\(([-0-9, ]*)\\); +// (throws \\w+|[-0-9.]+): .+");
    private static final Pattern TYPED = Pattern.compile("for \\(char sign : \"(.+)\"\\.toCharArray\\(\\)\\) \\{");
    private static final List<String> OTHER_LINES =
            List.of("", "RailSequence x = new RailSequence();", "x.append(sign);", "}");

    private final RailSequence x = new RailSequence();
    private final TreeSet<String> wrong = new TreeSet<>();
    private int calls;

    public static void main(String[] args) throws IOException, ReflectiveOperationException {
        ReadmeTest test = new ReadmeTest();
        String readme = Files.readString(Path.of("README.md"));
        test.playBlocks(readme);
        test.lookForMethods(readme);
        test.lookForTests(readme);
        test.wrong.forEach(System.out::println);
        System.out.println(test.wrong.isEmpty() ? "README.md is right" : "README.md is not right");
        if (!test.wrong.isEmpty()) {
            System.exit(1);
        }
    }

    private void playBlocks(String readme) throws ReflectiveOperationException {
        String[] parts = readme.split("```");
        for (int i = 1; i < parts.length; i += 2) {
            for (String line : parts[i].replaceFirst("^java\n", "").split("\n")) {
                play(line.trim());
            }
        }
        if (calls < LEAST_CALLS) {
            wrong.add("only " + calls + " calls were found");
        }
    }

    private void play(String line) throws ReflectiveOperationException {
        Matcher call = CALL.matcher(line);
        Matcher typed = TYPED.matcher(line);
        if (call.matches()) {
            calls++;
            String got = answer(call.group(1), call.group(2));
            if (!got.equals(call.group(3))) {
                wrong.add("the answer is " + got + ": " + line);
            }
        } else if (typed.matches()) {
            typed.group(1).chars().forEach(x::append);
        } else if (!OTHER_LINES.contains(line)) {
            wrong.add("not understood: " + line);
        }
    }

    private String answer(String name, String arguments) throws ReflectiveOperationException {
        Object[] numbers = Stream.of(arguments.split(", *")).filter(s -> !s.isEmpty()).map(Integer::valueOf).toArray();
        Class<?>[] types = new Class<?>[numbers.length];
        Arrays.fill(types, int.class);
        try {
            return String.valueOf(RailSequence.class.getMethod(name, types).invoke(x, numbers));
        } catch (InvocationTargetException e) {
            return "throws " + e.getCause().getClass().getSimpleName();
        }
    }

    private void lookForMethods(String readme) {
        for (Method method : RailSequence.class.getDeclaredMethods()) {
            boolean isOfFace = Modifier.isPublic(method.getModifiers());
            if (isOfFace && !readme.contains("`" + method.getName() + "`")) {
                wrong.add("not named: " + method.getName());
            }
        }
    }

    private void lookForTests(String readme) throws IOException {
        try (Stream<Path> files = Files.list(Path.of("src/test/java"))) {
            files.map(file -> file.getFileName().toString())
                    .filter(name -> !readme.contains("`" + name + "`"))
                    .forEach(name -> wrong.add("not named: " + name));
        }
    }
}
