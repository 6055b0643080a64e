import java.io.IOException;
import java.lang.reflect.Constructor;
import java.lang.reflect.Field;
import java.lang.reflect.Method;
import java.lang.reflect.Modifier;
import java.nio.file.Files;
import java.nio.file.Path;
import java.util.Arrays;
import java.util.Set;
import java.util.TreeSet;
import java.util.regex.Matcher;
import java.util.regex.Pattern;

/** The class has the document's face and nothing more, and keeps to what LANGUAGE.md forbids. */
public final class FaceTest {
    private static final Set<String> FACE = new TreeSet<>(Arrays.asList(
        "int triple(int, int, int)", "int path(int, int, int)", "int from(int)", "int run(int, int, int)",
        "int at(int, int)", "int plain(int, int, int)", "int steps(int)", "boolean cycle(int)",
        "int depth(int) throws ArrayIndexOutOfBoundsException", "int inverse(int)", "int negated(int, int)"));
    private static int wrong = 0;

    public static void main(String[] args) throws IOException {
        theFaceIsThatOfTheDocument();
        theRestIsPrivate();
        classesInsideAreStatic();
        theSourceKeepsToTheLanguage();
        System.out.println(wrong == 0 ? "the face is as due" : wrong + " faults");
        if (wrong != 0) {
            System.exit(1);
        }
    }

    private static void check(boolean good, String fault) {
        if (!good) {
            wrong++;
            System.out.println(fault);
        }
    }

    private static void theFaceIsThatOfTheDocument() {
        int modifiers = PathSteps.class.getModifiers();
        check(Modifier.isPublic(modifiers) && Modifier.isFinal(modifiers), "the class is not public and final");
        Set<String> found = new TreeSet<>();
        for (Method m : PathSteps.class.getDeclaredMethods()) {
            if (Modifier.isPublic(m.getModifiers())) {
                found.add(written(m));
                check(!Modifier.isStatic(m.getModifiers()), m + " is static");
            }
        }
        check(found.equals(FACE), "the face is " + found + ", due is " + FACE);
        Constructor<?>[] made = PathSteps.class.getDeclaredConstructors();
        check(made.length == 1 && made[0].getParameterCount() == 0 && Modifier.isPublic(made[0].getModifiers()),
            "the constructor is another");
    }

    private static String written(Method m) {
        StringBuilder text = new StringBuilder(m.getReturnType().getSimpleName()).append(' ').append(m.getName());
        String before = "(";
        for (Class<?> type : m.getParameterTypes()) {
            text.append(before).append(type.getSimpleName());
            before = ", ";
        }
        text.append(')');
        for (Class<?> type : m.getExceptionTypes()) {
            text.append(" throws ").append(type.getSimpleName());
        }
        return text.toString();
    }

    private static void theRestIsPrivate() {
        Set<String> names = new TreeSet<>();
        for (Method m : PathSteps.class.getDeclaredMethods()) {
            int modifiers = m.getModifiers();
            check(Modifier.isPublic(modifiers) || Modifier.isPrivate(modifiers), m + " is visible");
            check(names.add(m.getName()), m.getName() + " stands twice");
        }
        for (Field f : PathSteps.class.getDeclaredFields()) {
            check(Modifier.isPrivate(f.getModifiers()), f + " is visible");
            check(!Modifier.isStatic(f.getModifiers()) || Modifier.isFinal(f.getModifiers()), f + " is static state");
        }
    }

    private static void classesInsideAreStatic() {
        for (Class<?> inside : PathSteps.class.getDeclaredClasses()) {
            int modifiers = inside.getModifiers();
            check(Modifier.isStatic(modifiers) && !Modifier.isPublic(modifiers) && !Modifier.isProtected(modifiers),
                inside + " is not a hidden static class");
            for (Field f : inside.getDeclaredFields()) {
                check(!Modifier.isStatic(f.getModifiers()), f + " is static state");
            }
        }
    }

    private static void theSourceKeepsToTheLanguage() throws IOException {
        String source = Files.readString(Path.of("src/main/java/PathSteps.java"));
        String code = source.replaceAll("(?s)/\\*.*?\\*/", " ").replaceAll("//[^\n]*", " ");
        String[] forbidden = {
            "\\bimport\\b", "\\bpackage\\b", "\\btry\\b", "\\bcatch\\b", "\\bfinally\\b", "\\bsynchronized\\b",
            "\\bassert\\b", "->", "::", "\\bwhile\\s*\\(\\s*true", "Exact\\s*\\(", "\\bSystem\\b", "\\bRandom\\b",
        };
        for (String pattern : forbidden) {
            Matcher m = Pattern.compile(pattern).matcher(code);
            check(!m.find(), "the source holds " + pattern);
        }
        Matcher thrown = Pattern.compile("\\bthrow\\b[^;]*;").matcher(code);
        int throwsFound = 0;
        while (thrown.find()) {
            throwsFound++;
            check(thrown.group().startsWith("throw new ArrayIndexOutOfBoundsException("), thrown.group());
        }
        check(throwsFound == 1, "there are " + throwsFound + " throw statements, due is that of depth alone");
    }
}
