import java.io.IOException;
import java.lang.reflect.InvocationTargetException;
import java.lang.reflect.Method;
import java.nio.file.Files;
import java.nio.file.Path;
import java.util.Arrays;
import java.util.Set;
import java.util.TreeSet;
import java.util.regex.Matcher;
import java.util.regex.Pattern;

/** The calls that README.md shows, made in their order on one object: each answers what it says there. */
public final class ReadmeTest {
    private static final Path README = Path.of("README.md");
    private static final Pattern BLOCK = Pattern.compile("```java\\n(.*?)```", Pattern.DOTALL);
    private static final Pattern CALL = Pattern.compile("foundry\\.(\\w+)\\(([^)]*)\\);(?:\\s*// (.*))?");
    private static final String MAKING = "MachineFoundry foundry = new MachineFoundry();";

    public static void main(String[] args) throws IOException, IllegalAccessException {
        Matcher block = BLOCK.matcher(Files.readString(README));
        Due.same("README.md shows calls", block.find() ? 1 : 0, 1);
        Set<String> shown = new TreeSet<>();
        MachineFoundry foundry = new MachineFoundry();
        for (String line : block.group(1).split("\n")) {
            if (!line.isBlank() && !line.startsWith("//") && !line.equals(MAKING)) {
                shown.add(make(foundry, line));
            }
        }
        Due.same("README.md shows one object", block.find() ? 1 : 0, 0);
        Due.same("the calls that it shows", String.join(" ", shown), String.join(" ", callsOfTheFace()));
        Due.end();
    }

    private static Set<String> callsOfTheFace() {
        Set<String> names = new TreeSet<>();
        for (Method method : MachineFoundry.class.getMethods()) {
            if (method.getDeclaringClass() == MachineFoundry.class) {
                names.add(method.getName());
            }
        }
        return names;
    }

    /** Makes the call of a line and answers its name. */
    private static String make(MachineFoundry foundry, String line) throws IllegalAccessException {
        Matcher call = CALL.matcher(line);
        if (!call.matches()) {
            Due.same("a line of README.md", line, "foundry.call(..); // -> answer");
            return line;
        }
        Method method = methodOf(call.group(1));
        String comment = call.group(3) == null ? "" : call.group(3);
        Due.same(line, outcome(foundry, method, call.group(2)), dueOf(method, comment));
        return method.getName();
    }

    private static Method methodOf(String name) {
        return Arrays.stream(MachineFoundry.class.getMethods())
            .filter(method -> method.getName().equals(name)).findFirst().orElseThrow();
    }

    /** Behind "-> " stand a number, a constant's name, or "throws" and an exception's; what returns nothing has none of it. */
    private static String dueOf(Method method, String comment) throws IllegalAccessException {
        Matcher told = Pattern.compile("-> (throws \\w+|-?\\w+).*").matcher(comment);
        if (!told.matches()) {
            return method.getReturnType() == void.class ? "nothing" : "an answer";
        }
        String answer = told.group(1);
        if (!answer.matches("[A-Z_]+")) {
            return answer;
        }
        try {
            return "" + MachineFoundry.class.getField(answer).getInt(null);
        } catch (NoSuchFieldException e) {
            return "no constant " + answer;
        }
    }

    private static String outcome(MachineFoundry foundry, Method method, String arguments) throws IllegalAccessException {
        try {
            Object answer = method.invoke(foundry, valuesOf(arguments));
            return answer == null ? "nothing" : "" + answer;
        } catch (InvocationTargetException e) {
            return "throws " + e.getCause().getClass().getSimpleName();
        }
    }

    private static Object[] valuesOf(String arguments) {
        if (arguments.isEmpty()) {
            return new Object[0];
        }
        String[] texts = arguments.split(", ");
        Object[] values = new Object[texts.length];
        for (int i = 0; i < texts.length; i++) {
            boolean isWord = texts[i].equals("true") || texts[i].equals("false");
            values[i] = isWord ? (Object) Boolean.valueOf(texts[i]) : (Object) Integer.valueOf(texts[i]);
        }
        return values;
    }
}
