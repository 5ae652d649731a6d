import java.io.File;
import java.io.IOException;
import java.lang.reflect.Method;
import java.lang.reflect.Modifier;
import java.nio.file.Files;
import java.nio.file.Path;
import java.util.regex.Matcher;
import java.util.regex.Pattern;

/** README.md tells the truth: its example answers as it says, and it names every call and every test. */
public final class ReadmeTest {
    private static final Check check = new Check("ReadmeTest");
    private static final Pattern CALL = Pattern.compile("book\\.(\\w+)\\((.*?)\\); +// ([^: ]+)(:.*)?");

    public static void main(String[] args) throws IOException, ReflectiveOperationException {
        String page = Files.readString(Path.of("README.md"));
        String example = between(page, "```java\n", "```");
        answers(example);
        String table = between(page, "| --- | --- |\n", "\n\n");
        for (Method method : TideBook.class.getDeclaredMethods()) {
            if (Modifier.isPublic(method.getModifiers())) {
                String name = method.getName();
                check.due("the example calls " + name, example.contains("book." + name + "("), true);
                check.due("the table has " + name, table.matches("(?s).*`" + name + "\\b.*"), true);
            }
        }
        check.due("how to run the tests", page.contains("\n    .ci/run\n"), true);
        String tests = page.substring(page.indexOf("## Tests"));
        for (File file : new File("test/java").listFiles()) {
            String name = file.getName().replace(".java", "");
            check.due("it names " + name, tests.contains("`" + name + "`"), true);
        }
        check.end();
    }

    private static String between(String text, String start, String end) {
        int from = text.indexOf(start);
        int to = from < 0 ? -1 : text.indexOf(end, from + start.length());
        check.due("README.md has a part from " + start.trim(), to >= 0, true);
        return to < 0 ? "" : text.substring(from + start.length(), to);
    }

    private static void answers(String example) throws ReflectiveOperationException {
        String[] lines = example.split("\n");
        check.due("the first line", lines[0], "TideBook book = new TideBook();");
        TideBook book = new TideBook();
        for (int k = 1; k < lines.length; k++) {
            Matcher line = CALL.matcher(lines[k]);
            boolean plain = line.matches();
            check.due("a call with its answer: " + lines[k], plain, true);
            if (plain) {
                check.due(lines[k], answer(book, line.group(1), line.group(2)), line.group(3));
            }
        }
    }

    private static String answer(TideBook book, String name, String list) throws ReflectiveOperationException {
        String[] texts = list.isEmpty() ? new String[0] : list.split(", ");
        Class<?>[] types = new Class<?>[texts.length];
        Object[] values = new Object[texts.length];
        for (int k = 0; k < texts.length; k++) {
            boolean number = texts[k].matches("-?\\d+");
            types[k] = number ? int.class : boolean.class;
            values[k] = number ? (Object) Integer.valueOf(texts[k]) : (Object) Boolean.valueOf(texts[k]);
        }
        return String.valueOf(TideBook.class.getMethod(name, types).invoke(book, values));
    }
}
