import java.io.IOException;
import java.lang.reflect.Field;
import java.lang.reflect.Method;
import java.lang.reflect.Modifier;
import java.nio.file.Files;
import java.nio.file.Path;
import java.util.ArrayList;
import java.util.List;
import java.util.Set;
import java.util.TreeSet;
import java.util.regex.Matcher;
import java.util.regex.Pattern;

/** The rules of ../shared/LANGUAGE.md that can be seen from the class and from its text; run beside src. */
public final class RulesTest {
    private static final Due due = new Due("RulesTest");
    private static final int MOST_CLASSES = 12;
    private static final int MOST_FIELDS = 20;
    private static final int MOST_PARAMETERS = 7;
    private static final int MOST_LINES = 60;
    private static final Set<Class<?>> FIXED = Set.of(int.class, long.class, boolean.class, char.class, String.class,
        int[].class, long[].class, char[].class, byte[].class);

    public static void main(String[] args) throws IOException {
        List<Class<?>> classes = new ArrayList<>(List.of(MainsWords.class.getDeclaredClasses()));
        insideAreHidden(classes);
        classes.add(MainsWords.class);
        due.is("rule 1: the package", MainsWords.class.getPackageName(), "");
        atMost("rule 11: classes", classes.size(), MOST_CLASSES);
        for (Class<?> each : classes) {
            names(each);
            fields(each);
            parameters(each);
        }
        String text = Files.readString(Path.of("src/main/java/MainsWords.java"));
        words(withoutComments(text));
        due.is("rule 3: signs outside 1 to 127", text.chars().filter(sign -> sign < 1 || sign > 127).count(), 0);
        lengths(text);
        due.end();
    }

    private static void insideAreHidden(List<Class<?>> inside) {
        for (Class<?> each : inside) {
            due.is("rule 1: " + each.getName() + " is open", asNumber(isOpen(each.getModifiers())), 0);
            due.is("rule 2: " + each.getName() + " is static", asNumber(Modifier.isStatic(each.getModifiers())), 1);
        }
    }

    /** Methods of the classes inside, too, bear no name of the face. */
    private static void names(Class<?> each) {
        Set<String> face = new TreeSet<>();
        for (Method method : MainsWords.class.getMethods()) {
            face.add(method.getName());
        }
        for (Method method : each.getDeclaredMethods()) {
            boolean isOfTheFace = each == MainsWords.class && Modifier.isPublic(method.getModifiers());
            due.is("rule 1: " + each.getName() + "." + method.getName() + " bears a public name",
                asNumber(!isOfTheFace && face.contains(method.getName())), 0);
        }
    }

    private static void fields(Class<?> each) {
        int own = 0;
        for (Field field : each.getDeclaredFields()) {
            if (!Modifier.isStatic(field.getModifiers())) {
                own++;
                continue;
            }
            String name = "rule 5: " + each.getName() + "." + field.getName();
            due.is(name + " is final", asNumber(Modifier.isFinal(field.getModifiers())), 1);
            due.is(name + " has a type for constants", asNumber(FIXED.contains(field.getType())), 1);
        }
        atMost("rule 11: fields of " + each.getName(), own, MOST_FIELDS);
    }

    private static void parameters(Class<?> each) {
        for (Method method : each.getDeclaredMethods()) {
            atMost("rule 11: parameters of " + each.getName() + "." + method.getName(), method.getParameterCount(),
                MOST_PARAMETERS);
        }
    }

    private static void words(String code) {
        String[] barred = {"\\bimport (?!java\\.util\\.(ArrayList|List|Arrays|Iterator|NoSuchElementException);)",
            "\\bpackage\\b", "\\bfinally\\b", "\\bassert\\b", "\\bsynchronized\\b", "\\bstatic \\{", "::", "\\bThread\\b",
            "\\bRandom\\b", "\\bMath\\.random\\b", "Exact\\(", "\\bSystem\\.(?!arraycopy\\()",
            "\\b(equals|hashCode|toString)\\([^)]*\\) \\{", "\" \\+", "\\+ \"",
            "\\b(Throwable|Exception|ClassCastException|NullPointerException|ArrayStoreException)\\b",
            "\\b(ArrayIndexOutOfBoundsException|NegativeArraySizeException)\\b"};
        for (String pattern : barred) {
            due.is("rules 1, 4, 5, 6, 10, 13: uses of " + pattern,
                Pattern.compile(pattern).matcher(code).results().count(), 0);
        }
    }

    private static String withoutComments(String text) {
        return text.replaceAll("(?s)/\\*.*?\\*/", "").replaceAll("//[^\n]*", "");
    }

    /** A method begins with a line that ends with "{" and ends with the next "}" that stands below its first sign. */
    private static void lengths(String text) {
        Pattern method = Pattern.compile("(?m)^( {4}| {8})[A-Za-z][^=;\n]*\\([^;\n]*\\) \\{\n(?s:(.*?))^\\1\\}");
        Matcher found = method.matcher(text);
        int methods = 0;
        while (found.find()) {
            methods++;
            String head = found.group().substring(0, found.group().indexOf('\n')).trim();
            atMost("rule 11: lines of " + head, (int) found.group().chars().filter(sign -> sign == '\n').count() + 1,
                MOST_LINES);
        }
        due.is("rule 11: methods were found", asNumber(methods > 27), 1);
    }

    private static boolean isOpen(int modifiers) {
        return Modifier.isPublic(modifiers) || Modifier.isProtected(modifiers);
    }

    private static int asNumber(boolean isSo) {
        return isSo ? 1 : 0;
    }

    private static void atMost(String what, int number, int most) {
        due.is(what + ": " + number + ", above " + most, asNumber(number > most), 0);
    }
}
