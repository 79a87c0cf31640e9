import java.io.IOException;
import java.lang.reflect.Constructor;
import java.lang.reflect.Field;
import java.lang.reflect.Method;
import java.lang.reflect.Modifier;
import java.nio.charset.StandardCharsets;
import java.nio.file.Files;
import java.nio.file.Path;
import java.util.Arrays;
import java.util.List;
import java.util.Set;
import java.util.TreeSet;
import java.util.regex.Matcher;
import java.util.regex.Pattern;

/** The public face of the document, and those rules of LANGUAGE.md that a machine can look at. */
public final class FaceTest {
    private static final Check check = new Check("FaceTest");
    private static final Path SOURCE = Path.of("src/main/java/DuskStones.java");
    private static final List<String> FACE = List.of(
        "int type(int)", "int clear()", "int hills()", "int hill(int,int)", "int stone(int,int)",
        "int man(int,int)", "int now(int)", "int order(int,int)", "int hour()", "int undo()",
        "int highest(int,int)", "int days(int)", "int little(int)", "int crew(int)", "int blocks(int)",
        "int written(int,int)", "int saw(int,int)", "int forget()", "int evening()",
        "long odds(int,int,int,int)", "int wear(int,int)", "int rate(int,int)", "int keep(int)",
        "int back(int)", "int count(int)", "long trace()");
    private static final List<String> FORBIDDEN = List.of(
        "\\bthrow\\b", "\\bthrows\\b", "\\btry\\b", "\\bcatch\\b", "\\bsynchronized\\b", "\\bassert\\b",
        "\\bimport\\b", "\\bpackage\\b", "\\bprotected\\b", "->", "::", "Exact\\b", "\\bdouble\\b", "\\bfloat\\b",
        "hashCode", "toString", "\\bLong\\.", "MAX_VALUE", "MIN_VALUE", "\\bstatic\\s*\\{",
        "System\\.(?!arraycopy\\b)", "Math\\.(?!(max|min|abs)\\b)", "Integer\\.(?!bitCount\\b)");

    public static void main(String[] args) throws IOException {
        constants();
        members();
        String code = withoutComments(Files.readString(SOURCE, StandardCharsets.ISO_8859_1));
        forbiddenWords(code);
        sizes(code);
        check.finish();
    }

    private static void constants() {
        check.due("BAD", DuskStones.BAD, -1);
        check.due("STATE", DuskStones.STATE, -2);
        check.due("FULL", DuskStones.FULL, -3);
        check.due("NONE", DuskStones.NONE, -9);
        check.due("NO", DuskStones.NO, -1000000);
    }

    private static void members() {
        Class<?> it = DuskStones.class;
        check.holds("public and final", Modifier.isPublic(it.getModifiers()) && Modifier.isFinal(it.getModifiers()));
        Set<String> face = new TreeSet<>();
        Set<String> names = new TreeSet<>();
        for (Method m : it.getDeclaredMethods()) {
            if (!Modifier.isPrivate(m.getModifiers())) {
                check.holds(m + " is public", Modifier.isPublic(m.getModifiers()));
                String kinds = String.join(",", Arrays.stream(m.getParameterTypes()).map(Class::getName).toList());
                face.add(m.getReturnType() + " " + m.getName() + "(" + kinds + ")");
                names.add(m.getName());
            }
        }
        check.holds("the methods are " + face, face.equals(new TreeSet<>(FACE)));
        Set<String> constants = new TreeSet<>();
        for (Field f : it.getDeclaredFields()) {
            if (!Modifier.isPrivate(f.getModifiers())) {
                constants.add(f.getName());
            }
            boolean loose = Modifier.isStatic(f.getModifiers()) && !Modifier.isFinal(f.getModifiers());
            check.holds(f + " is no static state", !loose);
        }
        check.holds("the constants are " + constants, constants.equals(Set.of("BAD", "STATE", "FULL", "NONE", "NO")));
        Constructor<?>[] made = it.getDeclaredConstructors();
        check.holds("one constructor, public", made.length == 1 && Modifier.isPublic(made[0].getModifiers()));
        hiddenNames(it, names);
    }

    private static void hiddenNames(Class<?> it, Set<String> names) {
        for (Method m : it.getDeclaredMethods()) {
            boolean hidden = Modifier.isPrivate(m.getModifiers()) && names.contains(m.getName());
            check.holds(m + " bears no public name", !hidden);
            check.holds(m + " takes at most seven", m.getParameterCount() <= 7);
        }
        for (Class<?> inside : it.getDeclaredClasses()) {
            check.holds(inside + " is static", Modifier.isStatic(inside.getModifiers()));
            check.holds(inside + " has few fields", inside.getDeclaredFields().length <= 30);
            for (Method m : inside.getDeclaredMethods()) {
                check.holds(m + " bears no public name", !names.contains(m.getName()));
                check.holds(m + " takes at most seven", m.getParameterCount() <= 7);
            }
        }
        check.holds("at most twelve classes", it.getDeclaredClasses().length <= 11);
    }

    private static String withoutComments(String source) {
        return Pattern.compile("/\\*.*?\\*/|//[^\n]*", Pattern.DOTALL).matcher(source).replaceAll("");
    }

    private static void forbiddenWords(String code) {
        for (String word : FORBIDDEN) {
            Matcher m = Pattern.compile(word).matcher(code);
            check.holds("nothing like " + word, !m.find());
        }
    }

    /** Methods, by their indentation: from a line that opens one to the line that closes it. */
    private static void sizes(String code) {
        String[] lines = code.split("\n");
        int opened = -1;
        String closing = "";
        for (int i = 0; i < lines.length; i++) {
            Matcher m = Pattern.compile("^( {4}| {8})[a-z].*\\) \\{$").matcher(lines[i]);
            boolean word = lines[i].matches(" *(if|for|while|switch|do|else)\\b.*");
            if (opened < 0 && m.find() && !word) {
                opened = i;
                closing = m.group(1) + "}";
            } else if (opened >= 0 && lines[i].equals(closing)) {
                check.holds("the method at line " + opened + " is short", i - opened < 60);
                opened = -1;
            }
        }
    }
}
