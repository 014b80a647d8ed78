import java.lang.reflect.Constructor;
import java.lang.reflect.Field;
import java.lang.reflect.Method;
import java.lang.reflect.Modifier;
import java.nio.file.Files;
import java.nio.file.Path;
import java.util.ArrayList;
import java.util.Arrays;
import java.util.List;
import java.util.Set;
import java.util.TreeSet;
import java.util.regex.Matcher;
import java.util.regex.Pattern;

/** The document's face and nothing beside it, and what of LANGUAGE.md can be seen from outside. */
public final class FaceTest {
    private static final Path SOURCE = Path.of("src/main/java/EscapeCells.java");
    private static final Check check = new Check("FaceTest");
    private static final Set<String> FACE = new TreeSet<>(Set.of(
        "boolean wall(int,int,boolean) IllegalArgumentException IllegalStateException",
        "int exit(int,int,int) IllegalArgumentException IllegalStateException",
        "void door(int,int,int) IllegalArgumentException IllegalStateException",
        "int smoke(int,int,int) IllegalArgumentException",
        "int person(int,int,int,int) IllegalArgumentException IllegalStateException",
        "int habit(int,int) IllegalArgumentException",
        "int ways()",
        "int walk(int,int,int) IllegalArgumentException",
        "int run()",
        "int told(int,int) IllegalArgumentException IllegalStateException",
        "int at(int,int,int) IllegalArgumentException IllegalStateException",
        "int through(int,int) IllegalArgumentException IllegalStateException",
        "int left(int) IllegalArgumentException IllegalStateException",
        "int turns()",
        "int signs()"));

    public static void main(String[] args) throws Exception {
        members();
        nestedClasses();
        source(Files.readString(SOURCE));
        check.finish();
    }

    private static String signature(Method m) {
        List<String> parameters = new ArrayList<>();
        for (Class<?> type : m.getParameterTypes()) {
            parameters.add(type.getSimpleName());
        }
        StringBuilder text = new StringBuilder(m.getReturnType().getSimpleName());
        text.append(' ').append(m.getName()).append('(').append(String.join(",", parameters)).append(')');
        for (Class<?> type : m.getExceptionTypes()) {
            text.append(' ').append(type.getSimpleName());
        }
        return text.toString();
    }

    private static void members() throws Exception {
        int modifiers = EscapeCells.class.getModifiers();
        check.holds("the class is public and final", Modifier.isPublic(modifiers) && Modifier.isFinal(modifiers));
        Set<String> seen = new TreeSet<>();
        for (Method m : EscapeCells.class.getDeclaredMethods()) {
            if (Modifier.isPublic(m.getModifiers())) {
                seen.add(signature(m));
            } else {
                check.holds(m.getName() + " is private", Modifier.isPrivate(m.getModifiers()));
                check.holds(m.getName() + " is no name of the face", !isFaceName(m.getName()));
            }
        }
        check.holds("the face is " + FACE + ", seen is " + seen, FACE.equals(seen));
        for (Field f : EscapeCells.class.getDeclaredFields()) {
            boolean constant = f.getName().equals("NONE");
            check.holds("field " + f.getName(), constant || Modifier.isPrivate(f.getModifiers()));
            check.holds("static field " + f.getName() + " is final",
                !Modifier.isStatic(f.getModifiers()) || Modifier.isFinal(f.getModifiers()));
        }
        int none = Modifier.PUBLIC | Modifier.STATIC | Modifier.FINAL;
        check.same("NONE's modifiers", EscapeCells.class.getDeclaredField("NONE").getModifiers(), none);
        Constructor<?>[] made = EscapeCells.class.getDeclaredConstructors();
        check.same("constructors", made.length, 1);
        check.holds("the constructor's parameters",
            Arrays.equals(made[0].getParameterTypes(), new Class<?>[] {int.class, int.class}));
        check.holds("the constructor is public", Modifier.isPublic(made[0].getModifiers()));
    }

    private static boolean isFaceName(String name) {
        return FACE.stream().anyMatch(line -> line.contains(" " + name + "("));
    }

    private static void nestedClasses() {
        Class<?>[] nested = EscapeCells.class.getDeclaredClasses();
        check.holds("at most twelve classes", nested.length <= 11);
        for (Class<?> c : nested) {
            int modifiers = c.getModifiers();
            check.holds(c + " is static", Modifier.isStatic(modifiers));
            check.holds(c + " is private or package-visible",
                !Modifier.isPublic(modifiers) && !Modifier.isProtected(modifiers));
            check.holds(c + " has some twenty fields at most", c.getDeclaredFields().length <= 20);
            for (Method m : c.getDeclaredMethods()) {
                check.holds(m + " is no name of the face", !isFaceName(m.getName()));
                check.holds(m + " has at most seven parameters", m.getParameterCount() <= 7);
            }
        }
    }

    private static void source(String text) {
        Matcher imports = Pattern.compile("(?m)^import (.*);$").matcher(text);
        while (imports.find()) {
            check.holds("import of " + imports.group(1), imports.group(1).equals("java.util.Arrays"));
        }
        for (String no : new String[] {"package", "try", "catch", "finally", "synchronized", "assert", "double",
            "float"}) {
            check.holds("the source is without " + no, !Pattern.compile("\\b" + no + "\\b").matcher(text).find());
        }
        for (String no : new String[] {"->", "::", "Exact", "System.out", "Random", "Time", "Thread"}) {
            check.holds("the source is without '" + no + "'", !text.contains(no));
        }
        check.holds("no characters beyond 127", text.chars().allMatch(c -> c < 128));
        Matcher thrown = Pattern.compile("throw .*").matcher(text);
        while (thrown.find()) {
            String form = "throw new Illegal(Argument|State)Exception\\(\"[^\"]*\"\\);";
            check.holds(thrown.group(), thrown.group().matches(form));
        }
        for (String section : new String[] {"the storey", "ways", "a run", "signs"}) {
            check.holds("the section " + section, text.contains("// ---- " + section + "\n"));
        }
        methodLengths(text.split("\n"));
    }

    /** A method ends at the brace that stands as far in as its head. */
    private static void methodLengths(String[] lines) {
        Pattern head = Pattern.compile("^( {4}| {8})\\S.*\\).*\\{$");
        for (int i = 0; i < lines.length; i++) {
            Matcher m = head.matcher(lines[i]);
            if (m.matches()) {
                int end = i;
                while (end < lines.length && !lines[end].equals(m.group(1) + "}")) {
                    end++;
                }
                check.holds("'" + lines[i].strip() + "' is of sixty lines at most", end - i < 60);
            }
        }
    }
}
