import java.io.IOException;
import java.lang.reflect.Field;
import java.lang.reflect.Method;
import java.lang.reflect.Modifier;
import java.nio.file.Files;
import java.nio.file.Path;
import java.util.Set;
import java.util.TreeSet;

/** The public face as DOC.md tells it, and what LANGUAGE.md rules out that can be seen from outside. */
final class FaceTest {
    private FaceTest() {
    }

    public static void main(String[] args) throws IOException {
        face();
        constants();
        hidden();
        source();
        Checks.end("FaceTest");
    }

    private static void face() throws IOException {
        Set<String> due = new TreeSet<>();
        boolean inFace = false;
        for (String line : Files.readAllLines(Path.of("../shared/DOC.md"))) {
            inFace = line.startsWith("```java") || inFace && !line.startsWith("```");
            String text = line.trim();
            if (inFace && text.startsWith("public") && text.contains("(") && !text.contains("MasterTree()")) {
                due.add(text.substring(0, text.length() - 1));
            }
        }
        Set<String> got = new TreeSet<>();
        for (Method method : MasterTree.class.getDeclaredMethods()) {
            if (Modifier.isPublic(method.getModifiers())) {
                got.add(textOf(method));
            }
        }
        Checks.is("the document has 40 methods", due.size(), 40);
        Set<String> names = new TreeSet<>();
        for (String text : due) {
            names.add(text.replaceAll("([(,] ?\\w+) \\w+", "$1"));
        }
        Checks.is("the methods are " + names + ", and not " + got + "; that it is so", names.equals(got), true);
        Checks.is("one constructor", MasterTree.class.getDeclaredConstructors().length, 1);
        Checks.is("the class is public and final", MasterTree.class.getModifiers(), Modifier.PUBLIC | Modifier.FINAL);
    }

    private static String textOf(Method method) {
        StringBuilder text = new StringBuilder("public ").append(method.getReturnType()).append(' ');
        text.append(method.getName()).append('(');
        for (Class<?> type : method.getParameterTypes()) {
            text.append(text.charAt(text.length() - 1) == '(' ? "" : ", ").append(type);
        }
        text.append(')');
        for (Class<?> thrown : method.getExceptionTypes()) {
            text.append(text.indexOf(" throws ") < 0 ? " throws " : ", ").append(thrown.getSimpleName());
        }
        return text.toString();
    }

    private static void constants() {
        Checks.is("NONE", MasterTree.NONE, -1);
        Checks.is("LOST", MasterTree.LOST, -2);
        Checks.is("ALL", MasterTree.ALL, -1);
        Checks.is("NOTHING", MasterTree.NOTHING, 0);
        Checks.is("ALLOW", MasterTree.ALLOW, 1);
        Checks.is("DENY", MasterTree.DENY, 2);
    }

    private static void hidden() {
        Set<String> names = new TreeSet<>();
        for (Method method : MasterTree.class.getDeclaredMethods()) {
            if (Modifier.isPublic(method.getModifiers())) {
                Checks.is(method.getName() + " is there once", names.add(method.getName()), true);
            }
        }
        int publicFields = 0;
        for (Field field : MasterTree.class.getDeclaredFields()) {
            boolean isPublic = Modifier.isPublic(field.getModifiers());
            publicFields += isPublic ? 1 : 0;
            boolean isHidden = Modifier.isPrivate(field.getModifiers());
            Checks.is(field.getName() + " is public or private", isPublic || isHidden, true);
            boolean isStatic = Modifier.isStatic(field.getModifiers());
            Checks.is(field.getName() + " is final, if static", !isStatic || Modifier.isFinal(field.getModifiers()), true);
        }
        Checks.is("public fields", publicFields, 6);
        hiddenMethods(MasterTree.class, names);
        for (Class<?> inside : MasterTree.class.getDeclaredClasses()) {
            hiddenMethods(inside, names);
            Checks.is(inside.getName() + " is static", Modifier.isStatic(inside.getModifiers()), true);
            Checks.is(inside.getName() + " is not public", Modifier.isPublic(inside.getModifiers()), false);
            Checks.is(inside.getName() + " has some twenty fields", inside.getDeclaredFields().length <= 20, true);
        }
        Checks.is("some twelve classes", MasterTree.class.getDeclaredClasses().length <= 11, true);
    }

    private static void hiddenMethods(Class<?> of, Set<String> names) {
        for (Method method : of.getDeclaredMethods()) {
            boolean isFace = of == MasterTree.class && Modifier.isPublic(method.getModifiers());
            if (!isFace) {
                Checks.is(method + " bears a name of the face", names.contains(method.getName()), false);
            }
            if (of == MasterTree.class && !isFace) {
                Checks.is(method + " is private", Modifier.isPrivate(method.getModifiers()), true);
            }
            Checks.is(method + " takes seven parameters at most", method.getParameterCount() <= 7, true);
        }
    }

    private static void source() throws IOException {
        String source = Files.readString(Path.of("src/main/java/MasterTree.java"));
        String[] ruledOut = {"catch", "finally", "synchronized", "assert ", "->", "::", "toString", "hashCode",
            ".equals(", "System.currentTimeMillis", "System.nanoTime", "Random", "instanceof", "Exact(", "package "};
        for (String text : ruledOut) {
            Checks.is("the source holds " + text, source.contains(text), false);
        }
        for (String line : source.split("\n")) {
            boolean isKnown = line.equals("import java.util.ArrayList;") || line.equals("import java.util.Arrays;");
            Checks.is("import: " + line, line.startsWith("import") && !isKnown, false);
            Checks.is("a line is short: " + line, line.length() <= 120, true);
        }
    }
}
