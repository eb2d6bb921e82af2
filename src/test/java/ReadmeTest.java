import java.io.IOException;
import java.lang.reflect.InvocationTargetException;
import java.lang.reflect.Method;
import java.lang.reflect.Modifier;
import java.nio.file.DirectoryStream;
import java.nio.file.Files;
import java.nio.file.Path;
import java.util.regex.Matcher;
import java.util.regex.Pattern;

/**
 * README.md against the class: each call of its example is made, in its order, and answers the number
 * that its comment begins with; each call of the face and each test of the project is named there.
 */
public final class ReadmeTest {
    private static final Pattern CALL = Pattern.compile("mill\\.(\\w+)\\(([-0-9, ]*)\\);(.*)");
    private static final Pattern ANSWER = Pattern.compile("\\s*// (-?\\d+)(:.*)?");

    private static int wrong = 0;

    private static void complain(String what) {
        wrong++;
        System.out.println("README.md: " + what);
    }

    private static Method method(String name) {
        for (Method m : ConstantMill.class.getMethods()) {
            if (m.getDeclaringClass() == ConstantMill.class && m.getName().equals(name)) {
                return m;
            }
        }
        return null;
    }

    private static Object[] numbers(String text) {
        if (text.isBlank()) {
            return new Object[0];
        }
        String[] parts = text.split(", *");
        Object[] all = new Object[parts.length];
        for (int i = 0; i < parts.length; i++) {
            all[i] = Integer.valueOf(parts[i].strip());
        }
        return all;
    }

    private static void call(ConstantMill mill, String line, Matcher call)
            throws IllegalAccessException, InvocationTargetException {
        Method m = method(call.group(1));
        Object[] told = numbers(call.group(2));
        Matcher answer = ANSWER.matcher(call.group(3));
        if (m == null || m.getParameterCount() != told.length) {
            complain("there is no such call: " + line);
            return;
        }
        long got = ((Number) m.invoke(mill, told)).longValue();
        if (!answer.matches() || got != Long.parseLong(answer.group(1))) {
            complain(line + " answered " + got);
        }
    }

    private static int example(String readme) throws IllegalAccessException, InvocationTargetException {
        ConstantMill mill = new ConstantMill();
        int calls = 0;
        for (String line : readme.split("\n")) {
            Matcher call = CALL.matcher(line.strip());
            if (call.matches()) {
                calls++;
                call(mill, line.strip(), call);
            }
        }
        return calls;
    }

    private static void everyCall(String readme) {
        for (Method m : ConstantMill.class.getDeclaredMethods()) {
            boolean open = Modifier.isPublic(m.getModifiers());
            if (open && !Pattern.compile("[`.]" + m.getName() + "[(`]").matcher(readme).find()) {
                complain(m.getName() + " is not told of");
            }
        }
    }

    private static void everyTest(String readme) throws IOException {
        try (DirectoryStream<Path> tests = Files.newDirectoryStream(Path.of("src/test/java"), "*Test.java")) {
            for (Path test : tests) {
                String name = test.getFileName().toString().replace(".java", "");
                if (!readme.contains("`" + name + "`")) {
                    complain(name + " is not told of");
                }
            }
        }
        if (!readme.contains("bash .ci/run")) {
            complain("it does not tell how the tests are run");
        }
    }

    private static void ownAnswers(String readme) {
        ConstantMill mill = new ConstantMill();
        long[] answers = {mill.at(6, 0, 0), mill.at(0, 0, 100), mill.told(0, 0, 0), mill.falls(6, 0),
            mill.falls(0, 101), mill.span(0, 0), ConstantMill.FULL, ConstantMill.NO, ConstantMill.NONE};
        for (long answer : answers) {
            if (!Pattern.compile("(?<![-\\d])" + answer + "(?!\\d)").matcher(readme).find()) {
                complain("the answer " + answer + " is not told of");
            }
        }
    }

    public static void main(String[] args)
            throws IOException, IllegalAccessException, InvocationTargetException {
        String readme = Files.readString(Path.of("README.md"));
        int calls = example(readme);
        if (calls < 15) {
            complain("its example has " + calls + " calls");
        }
        everyCall(readme);
        everyTest(readme);
        ownAnswers(readme);
        System.out.println(calls + " calls of README.md, " + wrong + " complaints");
        if (wrong != 0) {
            System.exit(1);
        }
    }
}
