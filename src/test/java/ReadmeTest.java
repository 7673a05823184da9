import java.io.IOException;
import java.lang.reflect.InvocationTargetException;
import java.lang.reflect.Method;
import java.nio.charset.StandardCharsets;
import java.nio.file.Files;
import java.nio.file.Path;
import java.util.regex.Matcher;
import java.util.regex.Pattern;

/** The calls of README.md, each against the answer that stands behind it there. */
public final class ReadmeTest {
    private static final Pattern TELL = Pattern.compile("tell\\(x, \"(.*)\"\\);\\s*// (.*)");
    private static final Pattern CALL = Pattern.compile("x\\.(\\w+)\\((.*)\\);\\s*// (.*)");

    private static int checked = 0;
    private static int wrong = 0;

    /** As README.md tells it. */
    private static int tell(LedTables x, String text) {
        for (int from = 0; from < text.length(); from += 20) {
            int[] n = new int[5];
            for (int i = 0; i < 20; i++) {
                int sign = from + i < text.length() ? text.charAt(from + i) : ' ';
                n[i / 4] = n[i / 4] << 8 | sign;
            }
            x.feed(n[0], n[1], n[2], n[3], n[4]);
        }
        return x.lens(text.length());
    }

    private static Object valueOf(String word) {
        return word.equals("true") || word.equals("false") ? (Object) Boolean.valueOf(word) : Integer.valueOf(word);
    }

    private static Object answerOf(LedTables x, String name, String told) throws IllegalAccessException {
        String[] words = told.isEmpty() ? new String[0] : told.split(", ");
        Object[] arguments = new Object[words.length];
        for (int i = 0; i < words.length; i++) {
            arguments[i] = valueOf(words[i]);
        }
        for (Method method : LedTables.class.getMethods()) {
            if (method.getName().equals(name) && method.getParameterCount() == words.length) {
                try {
                    return method.invoke(x, arguments);
                } catch (InvocationTargetException e) {
                    return e.getCause().getClass().getSimpleName();
                }
            }
        }
        return "no such call";
    }

    private static void check(String line, String due, Object got) {
        checked++;
        String text = got == null ? "nothing" : got.toString();
        boolean isNamed = due.equals("NONE") && text.equals(String.valueOf(LedTables.NONE))
                || due.equals("VOID") && text.equals(String.valueOf(LedTables.VOID));
        if (!isNamed && !text.equals(due)) {
            wrong++;
            System.out.println(line + ": answered " + text);
        }
    }

    public static void main(String[] args) throws IOException, IllegalAccessException {
        LedTables x = new LedTables();
        for (String line : Files.readAllLines(Path.of("README.md"), StandardCharsets.UTF_8)) {
            Matcher tells = TELL.matcher(line);
            Matcher calls = CALL.matcher(line);
            if (line.equals("LedTables x = new LedTables();")) {
                x = new LedTables();
            } else if (tells.matches()) {
                check(line, tells.group(2), tell(x, tells.group(1)));
            } else if (calls.matches()) {
                check(line, calls.group(3), answerOf(x, calls.group(1), calls.group(2)));
            }
        }
        System.out.println(checked + " calls of README.md, " + wrong + " not as it says");
        if (wrong > 0 || checked == 0) {
            System.exit(1);
        }
    }
}
