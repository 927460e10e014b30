import java.io.IOException;
import java.lang.reflect.Constructor;
import java.lang.reflect.Field;
import java.lang.reflect.Method;
import java.lang.reflect.Modifier;
import java.nio.file.Files;
import java.nio.file.Path;
import java.util.ArrayList;
import java.util.Arrays;
import java.util.Collections;
import java.util.List;
import java.util.regex.Matcher;
import java.util.regex.Pattern;

/** The public face of the document, word by word, and the rules of LANGUAGE.md that a reader of text can see. */
public final class FaceTest {
    private static final Path DOCUMENT = Path.of("../shared/DOC.md");
    private static final Path SOURCE = Path.of("src/main/java/MachineFoundry.java");

    /** What the rules bar; the text of comments and of exceptions is taken out first. */
    private static final String[] BARRED = {
        "->", "::", "\\bimport\\b", "\\bpackage\\b", "\\bcatch\\b", "\\bfinally\\b", "\\bsynchronized\\b",
        "\\bassert\\b", "\\bnative\\b", "\\bvolatile\\b", "\\bSystem\\.(?!arraycopy)", "\\bThread\\b", "\\bObject\\b",
        "Exact\\b", "\\bhashCode\\b", "\\btoString\\b", "@"};

    public static void main(String[] args) throws IOException {
        face();
        noOtherMembers();
        wordsOfTheSource();
        Due.end();
    }

    private static void face() throws IOException {
        String document = Files.readString(DOCUMENT);
        Matcher block = Pattern.compile("```java\\n(.*?)```", Pattern.DOTALL).matcher(document);
        Due.same("the document has a face", block.find() ? 1 : 0, 1);
        List<String> due = new ArrayList<>();
        for (String line : block.group(1).split("\n")) {
            addMembers(due, line.trim());
        }
        Collections.sort(due);
        Due.same("the face", String.join("\n", membersOfTheClass()), String.join("\n", due));
    }

    private static void addMembers(List<String> members, String line) {
        if (line.startsWith("public static final int ")) {
            for (String constant : line.substring(24, line.length() - 1).split(", ")) {
                members.add("constant " + constant);
            }
        } else if (line.endsWith(";")) {
            String call = line.substring(7, line.length() - 1);
            // Names of arguments are not part of what is compiled.
            members.add(call.replaceAll("(int|boolean) \\w+(?=[,)])", "$1"));
        }
    }

    private static List<String> membersOfTheClass() {
        List<String> members = new ArrayList<>();
        for (Field field : MachineFoundry.class.getFields()) {
            members.add("constant " + field.getName() + " = " + valueOf(field));
            Due.same(field.getName() + " is a static int", isStaticInt(field) ? 1 : 0, 1);
        }
        for (Constructor<?> constructor : MachineFoundry.class.getConstructors()) {
            members.add("MachineFoundry" + ends(constructor.getParameterTypes(), constructor.getExceptionTypes()));
        }
        for (Method method : MachineFoundry.class.getDeclaredMethods()) {
            if (Modifier.isPublic(method.getModifiers())) {
                members.add(method.getReturnType().getSimpleName() + " " + method.getName()
                    + ends(method.getParameterTypes(), method.getExceptionTypes()));
                Due.same(method.getName() + " is a call of an object", method.getModifiers(), Modifier.PUBLIC);
            }
        }
        Collections.sort(members);
        return members;
    }

    private static boolean isStaticInt(Field field) {
        return field.getType() == int.class && Modifier.isStatic(field.getModifiers());
    }

    private static int valueOf(Field field) {
        try {
            return field.getInt(null);
        } catch (IllegalAccessException e) {
            throw new IllegalStateException(e);
        }
    }

    private static String ends(Class<?>[] parameters, Class<?>[] exceptions) {
        String thrown = exceptions.length == 0 ? "" : " throws " + names(exceptions);
        return "(" + names(parameters) + ")" + thrown;
    }

    private static String names(Class<?>[] classes) {
        return String.join(", ", Arrays.stream(classes).map(Class::getSimpleName).toList());
    }

    private static void noOtherMembers() {
        int modifiers = MachineFoundry.class.getModifiers();
        Due.same("the class is public and final", Modifier.isPublic(modifiers) && Modifier.isFinal(modifiers) ? 1 : 0, 1);
        List<String> publicNames = new ArrayList<>();
        for (Method method : MachineFoundry.class.getDeclaredMethods()) {
            if (Modifier.isPublic(method.getModifiers())) {
                publicNames.add(method.getName());
            }
        }
        for (Method method : MachineFoundry.class.getDeclaredMethods()) {
            if (!Modifier.isPublic(method.getModifiers())) {
                Due.same(method.getName() + " is private", Modifier.isPrivate(method.getModifiers()) ? 1 : 0, 1);
                Due.same(method.getName() + " has a name of its own", publicNames.contains(method.getName()) ? 0 : 1, 1);
            }
            Due.same(method.getName() + " takes at most seven", method.getParameterCount() <= 7 ? 1 : 0, 1);
        }
        for (Field field : MachineFoundry.class.getDeclaredFields()) {
            int of = field.getModifiers();
            Due.same(field.getName() + " is public or private", Modifier.isPublic(of) || Modifier.isPrivate(of) ? 1 : 0, 1);
            Due.same(field.getName() + " is final if static", !Modifier.isStatic(of) || Modifier.isFinal(of) ? 1 : 0, 1);
        }
        for (Class<?> inside : MachineFoundry.class.getDeclaredClasses()) {
            int of = inside.getModifiers();
            Due.same(inside.getName() + " is private and static", Modifier.isPrivate(of) && Modifier.isStatic(of) ? 1 : 0, 1);
        }
    }

    private static void wordsOfTheSource() throws IOException {
        String source = Files.readString(SOURCE);
        for (int i = 0; i < source.length(); i++) {
            if (source.charAt(i) > 126) {
                Due.same("a sign of the source at " + i, source.charAt(i), '?');
            }
        }
        String code = source.replaceAll("//[^\\n]*", "").replaceAll("\"[^\"\\n]*\"", "\"\"");
        for (String barred : BARRED) {
            Due.same("the source says " + barred, Pattern.compile(barred).matcher(code).find() ? 1 : 0, 0);
        }
        Matcher made = Pattern.compile("throw new (\\w+)\\(").matcher(code);
        while (made.find()) {
            Due.same("it throws " + made.group(1), made.group(1).matches("Index\\w+|IllegalArgument\\w+|IllegalState\\w+") ? 1 : 0, 1);
        }
    }
}
