import java.io.IOException;
import java.lang.reflect.Field;
import java.lang.reflect.Method;
import java.lang.reflect.Modifier;
import java.nio.file.Files;
import java.nio.file.Path;
import java.util.Set;
import java.util.TreeSet;

/** The class's face and those rules of LANGUAGE.md that can be told from its members and words. */
public final class FaceTest {
    private static final String[] FACE = {
        "int rule(int,int,int,int,int)", "int bound(int,int,int)", "int at(int,int,int)",
        "int falls(int,int)", "int grind(int,int,int,int)", "int more(int,int)",
        "int join(int,int,int)", "int empty(int)", "int span(int,int)", "int bits(int,int)",
        "int sign(int,int)", "int rest(int,int,int)", "int word(int,int,int)", "int same(int,int)",
        "int part(int,int,int,int)", "int clear(int)", "int told(int,int,int)",
        "int figures(int,int,int,int)", "int need(int,int,int)", "int signOf()", "long whole()",
        "int figure(int)", "int count(int)", "int where(int,int)", "int about(int)",
        "int agree(int,int,int,int,int)",
    };
    private static final String[] FORBIDDEN = {
        "import ", "->", "::", "throw", "catch", "try", "finally", "synchronized", "assert",
        "instanceof", "Exact", "protected", "@", "System.", "new int[0]", "var ",
    };
    private static int wrong = 0;

    private static void due(String what, boolean holds) {
        if (!holds) {
            wrong++;
            System.out.println("does not hold: " + what);
        }
    }

    private static String told(Method m) {
        StringBuilder text = new StringBuilder();
        text.append(m.getReturnType()).append(' ').append(m.getName()).append('(');
        for (Class<?> type : m.getParameterTypes()) {
            text.append(text.charAt(text.length() - 1) == '(' ? "" : ",").append(type);
        }
        return text.append(')').toString();
    }

    private static void face() {
        Set<String> want = new TreeSet<>(Set.of(FACE));
        Set<String> names = new TreeSet<>();
        for (String method : FACE) {
            names.add(method.substring(method.indexOf(' ') + 1, method.indexOf('(')));
        }
        Set<String> have = new TreeSet<>();
        for (Method m : ConstantMill.class.getDeclaredMethods()) {
            if (Modifier.isPublic(m.getModifiers())) {
                have.add(told(m));
            } else {
                due(m + " is private", Modifier.isPrivate(m.getModifiers()));
                due(m + " has a name of its own", !names.contains(m.getName()));
            }
        }
        due("the face is " + want + ", not " + have, want.equals(have));
        due("the class is final", Modifier.isFinal(ConstantMill.class.getModifiers()));
        due("one constructor", ConstantMill.class.getDeclaredConstructors().length == 1);
        Set<String> constants = new TreeSet<>(Set.of("NONE", "UNKNOWN", "OUTSIDE", "STATE", "FULL", "NO"));
        for (Field f : ConstantMill.class.getDeclaredFields()) {
            boolean open = Modifier.isPublic(f.getModifiers());
            due(f + " is of the face or private",
                    open ? constants.remove(f.getName()) : Modifier.isPrivate(f.getModifiers()));
        }
        due("these constants are missing: " + constants, constants.isEmpty());
        due("their values", ConstantMill.NONE == -6 && ConstantMill.UNKNOWN == -1
                && ConstantMill.OUTSIDE == -2 && ConstantMill.STATE == -3
                && ConstantMill.FULL == -4 && ConstantMill.NO == -5);
    }

    private static void classesInside() {
        Set<String> names = new TreeSet<>();
        for (String method : FACE) {
            names.add(method.substring(method.indexOf(' ') + 1, method.indexOf('(')));
        }
        Class<?>[] inside = ConstantMill.class.getDeclaredClasses();
        due("some twelve classes at most", inside.length <= 12);
        for (Class<?> c : inside) {
            due(c + " is private", Modifier.isPrivate(c.getModifiers()));
            due(c + " is static", Modifier.isStatic(c.getModifiers()));
            due(c + " has some twenty fields at most", c.getDeclaredFields().length <= 20);
            for (Field f : c.getDeclaredFields()) {
                due(f + " is no static state",
                        !Modifier.isStatic(f.getModifiers()) || Modifier.isFinal(f.getModifiers()));
            }
            for (Method m : c.getDeclaredMethods()) {
                due(m + " has seven parameters at most", m.getParameterCount() <= 7);
                due(m + " has a name of its own", !names.contains(m.getName()));
            }
        }
    }

    private static void words() throws IOException {
        String source = Files.readString(Path.of("src/main/java/ConstantMill.java"));
        for (int i = 0; i < source.length(); i++) {
            char c = source.charAt(i);
            due("the sign " + (int) c + " is a plain one", c == '\n' || c >= ' ' && c < 127);
        }
        int longest = 0;
        int length = 0;
        StringBuilder code = new StringBuilder();
        for (String line : source.split("\n")) {
            String text = line.strip();
            boolean comment = text.startsWith("*") || text.startsWith("/**") || text.startsWith("//");
            code.append(comment ? "" : text).append('\n');
            boolean opens = line.matches(" {4}( {4})?[A-Za-z].*\\) \\{");
            length = opens ? 0 : length + 1;
            if (line.matches(" {4}( {4})?\\}")) {
                longest = Math.max(longest, length);
                length = -100000;
            }
        }
        due("no method is longer than 60 lines, yet one has " + longest, longest > 5 && longest <= 60);
        for (String word : FORBIDDEN) {
            due("no " + word, code.indexOf(word) < 0);
        }
    }

    public static void main(String[] args) throws IOException {
        face();
        classesInside();
        words();
        System.out.println(wrong == 0 ? "the face is as told" : wrong + " do not hold");
        if (wrong != 0) {
            System.exit(1);
        }
    }
}
