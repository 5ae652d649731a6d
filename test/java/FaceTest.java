import java.io.IOException;
import java.lang.reflect.Field;
import java.lang.reflect.Method;
import java.lang.reflect.Modifier;
import java.nio.file.Files;
import java.nio.file.Path;
import java.util.Set;
import java.util.TreeSet;
import java.util.regex.Matcher;
import java.util.regex.Pattern;

/** The document's face and no other, and those rules of LANGUAGE.md that can be seen from outside. */
public final class FaceTest {
    private static final Check check = new Check("FaceTest");
    private static final String[] FACE = {
        "int set(int, int, int, int)", "int special(int, int, int)", "int constant(int, int, int)",
        "int constantSpecial(int, int)", "int formula(int, int, int, int, int)", "int input(int)",
        "int width(int, boolean)", "int back()", "int alarm(int, int, int)", "int ring()",
        "double reading(int, int)", "boolean isBlank(int, int)", "boolean isMinus(int, int)",
        "long bits(int, int)", "int compared(int, int, int)", "int alarmed(int, int)", "int told(int, int)"};
    private static final String[] RULED_OUT = {
        "\\bimport\\b", "\\bpackage\\b", "->", "::", "@", "\\bcatch\\b", "\\bfinally\\b", "\\bsynchronized\\b",
        "\\bassert\\b", "\\bvar\\b", "\\bDouble\\b", "\\bFloat\\b", "\\bSystem\\b(?!\\.arraycopy)", "Exact\\b",
        "\\bjava\\.", "\\bhashCode\\b", "\\btoString\\b", "\\bstrictfp\\b", "\\bNaN\\b", "\\bstatic \\{"};

    public static void main(String[] args) throws IOException {
        Class<?> face = TideBook.class;
        check.due("public and final", face.getModifiers(), Modifier.PUBLIC | Modifier.FINAL);
        check.due("constructors", face.getDeclaredConstructors().length, 1);
        check.due("the constructor is public", face.getConstructors().length, 1);
        check.due("its parameters", face.getConstructors()[0].getParameterCount(), 0);
        methods(face);
        classes(face);
        source();
        check.end();
    }

    private static void methods(Class<?> face) {
        Set<String> names = new TreeSet<>();
        Set<String> open = new TreeSet<>();
        for (Method method : face.getDeclaredMethods()) {
            if (Modifier.isPublic(method.getModifiers())) {
                names.add(method.getName());
            }
            if (!Modifier.isPrivate(method.getModifiers())) {
                open.add(Modifier.toString(method.getModifiers()) + " " + signature(method));
            }
        }
        check.due("methods of the face", open.size(), FACE.length);
        for (String signature : FACE) {
            check.due(signature, open.contains("public " + signature), true);
        }
        for (Method method : face.getDeclaredMethods()) {
            if (Modifier.isPrivate(method.getModifiers())) {
                check.due("private name " + method.getName(), names.contains(method.getName()), false);
            }
        }
    }

    private static String signature(Method method) {
        StringBuilder text = new StringBuilder();
        text.append(method.getReturnType().getName()).append(' ').append(method.getName()).append('(');
        String comma = "";
        for (Class<?> type : method.getParameterTypes()) {
            text.append(comma).append(type.getName());
            comma = ", ";
        }
        return text.append(')').toString();
    }

    private static void classes(Class<?> face) {
        Class<?>[] inside = face.getDeclaredClasses();
        check.due("at most twelve classes", inside.length < 12, true);
        fields(face, true);
        for (Class<?> one : inside) {
            int modifiers = one.getModifiers();
            check.due("static " + one, Modifier.isStatic(modifiers), true);
            check.due("not open " + one, Modifier.isPublic(modifiers) || Modifier.isProtected(modifiers), false);
            fields(one, false);
            for (Method method : one.getDeclaredMethods()) {
                check.due("parameters " + method, method.getParameterCount() <= 7, true);
            }
        }
    }

    private static void fields(Class<?> one, boolean allPrivate) {
        int count = 0;
        for (Field field : one.getDeclaredFields()) {
            int modifiers = field.getModifiers();
            if (allPrivate) {
                check.due("private " + field, Modifier.isPrivate(modifiers), true);
            }
            if (Modifier.isStatic(modifiers)) {
                check.due("final " + field, Modifier.isFinal(modifiers), true);
                check.due("an int, long, boolean or char " + field, Set.of(int.class, long.class,
                        boolean.class, char.class).contains(field.getType()), true);
            } else {
                count++;
            }
        }
        check.due("at most twenty fields " + one, count <= 20, true);
    }

    private static void source() throws IOException {
        String text = Files.readString(Path.of("src/main/java/TideBook.java"));
        String code = text.replaceAll("(?s)/\\*.*?\\*/", "").replaceAll("//[^\n]*", "");
        for (String pattern : RULED_OUT) {
            Matcher found = Pattern.compile(pattern).matcher(code);
            check.due("ruled out: " + pattern, found.find(), false);
        }
        Matcher calls = Pattern.compile("\\b(Math|Integer|Long)\\.(\\w+)").matcher(code);
        while (calls.find()) {
            check.due("library: " + calls.group(), Set.of("Math.min", "Math.max", "Math.abs",
                    "Integer.bitCount").contains(calls.group()), true);
        }
        int open = 0;
        for (String line : code.split("\n")) {
            boolean starts = line.matches(" {4,8}[a-zA-Z].*\\) \\{") && !line.contains(" class ");
            open = starts ? 1 : open + 1;
            boolean ends = line.matches(" {4}(    )?\\}");
            if (ends) {
                check.due("a method of at most sixty lines", open <= 60, true);
                open = 0;
            }
        }
    }
}
