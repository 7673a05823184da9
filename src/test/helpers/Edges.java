import java.io.IOException;
import java.lang.reflect.Method;
import java.nio.charset.StandardCharsets;
import java.nio.file.Files;
import java.nio.file.Path;
import java.util.NoSuchElementException;

/**
 * What the tests of the document's sentences have in common. A test is a method that bears the words it is for
 * (Says); it fails too if it checks nothing, or if the document no longer has these words.
 */
abstract class Edges {
    interface Call {
        Object answer();
    }

    static final Class<?> BAD = IllegalArgumentException.class;
    static final Class<?> STATE = IllegalStateException.class;
    static final Class<?> NO_INDEX = IndexOutOfBoundsException.class;
    static final Class<?> NO_SUCH = NoSuchElementException.class;
    static final int NONE = -1;
    static final int VOID = Integer.MIN_VALUE;
    static final int MIN = Integer.MIN_VALUE;
    static final int MAX = Integer.MAX_VALUE;

    private static final Path DOCUMENT = Path.of("../shared/DOC.md");

    private static Method running;
    private static int checked;
    private static int wrong;

    // ---- checking ----

    static void is(Object due, Object got) {
        checked++;
        if (!due.equals(got)) {
            report("answered " + got + ", due is " + due);
        }
    }

    static void fails(Class<?> due, Call call) {
        Object got;
        try {
            got = call.answer();
        } catch (RuntimeException e) {
            got = e.getClass();
        }
        is(due, got);
    }

    private static void report(String what) {
        wrong++;
        int line = 0;
        for (StackTraceElement e : new Throwable().getStackTrace()) {
            if (e.getMethodName().equals(running.getName())) {
                line = e.getLineNumber();
                break;
            }
        }
        System.out.println(running.getName() + ", line " + line + ": " + what);
        System.out.println("  the document: " + String.join(" .. ", running.getAnnotation(Says.class).value()));
    }

    static void runAll(Class<?> tests) throws IOException, ReflectiveOperationException {
        String document = Files.exists(DOCUMENT) ? Files.readString(DOCUMENT, StandardCharsets.UTF_8) : null;
        int many = 0;
        int checks = 0;
        for (Method method : tests.getDeclaredMethods()) {
            if (!method.isAnnotationPresent(Says.class)) {
                continue;
            }
            running = method;
            checked = 0;
            method.setAccessible(true);
            method.invoke(null);
            if (checked == 0) {
                report("nothing was checked");
            }
            many++;
            checks += checked;
            for (String words : method.getAnnotation(Says.class).value()) {
                if (document != null && !plain(document).contains(plain(words))) {
                    report("the document does not say: " + words);
                }
            }
        }
        System.out.println(many + " sentences, " + checks + " answers, " + wrong + " not as due");
        if (wrong > 0 || many == 0) {
            System.exit(1);
        }
    }

    private static String plain(String text) {
        return text.replaceAll("\\s+", " ");
    }

    // ---- lenses ----

    static void feedText(LedTables x, String text) {
        for (int from = 0; from < text.length(); from += 20) {
            int[] numbers = new int[5];
            for (int i = 0; i < 20; i++) {
                int at = from + i;
                numbers[i / 4] = numbers[i / 4] << 8 | (at < text.length() ? text.charAt(at) & 255 : 0);
            }
            x.feed(numbers[0], numbers[1], numbers[2], numbers[3], numbers[4]);
        }
    }

    static int tell(LedTables x, String text) {
        feedText(x, text);
        return x.lens(text.length());
    }

    /** A new object with this lens, which must be one. */
    static LedTables with(String text) {
        LedTables x = new LedTables();
        int clauses = tell(x, text);
        if (clauses < 0) {
            report("no lens: " + text + " (" + clauses + " at " + x.fault() + ")");
        }
        return x;
    }

    /** The answer of lens() for a text, and the place of its fault. */
    static String reading(String text) {
        LedTables x = new LedTables();
        return tell(x, text) + " " + x.fault();
    }

    /** The text is a lens of so many clauses. */
    static void reads(int clauses, String text) {
        is(clauses + " -1", reading(text));
    }

    /** The text has a fault of this kind at this place. */
    static void faulty(int kind, int place, String text) {
        is(kind - 10 + " " + place, reading(text));
    }

    /** The value of an E of old letters. */
    static int valueOf(String e, int... old) {
        int[] row = java.util.Arrays.copyOf(old, 4);
        return with("A=" + e + ";").see(row[0], row[1], row[2], row[3], 0);
    }

    /** Whether a C of old letters holds. */
    static boolean holds(String c, int... old) {
        return valueOf("if(" + c + ",1,0)", old) == 1;
    }

    // ---- tables ----

    static void to(LedTables x, int stage) {
        for (int turn = 0; turn < 5 && x.count(0) < stage; turn++) {
            if (x.go() != 1) {
                report("stage " + x.count(0) + " does not go on");
            }
        }
    }

    static void back(LedTables x, int stage) {
        for (int turn = 0; turn < 5 && x.count(0) > stage; turn++) {
            x.back();
        }
    }

    /** What row() tells of a row, from one question to another. */
    static String rowOf(LedTables x, int key, int from, int to) {
        StringBuilder told = new StringBuilder();
        for (int what = from; what <= to; what++) {
            told.append(what == from ? "" : " ").append(x.row(key, what));
        }
        return told.toString();
    }

    /** The letters of a form, as program 7 reads them. */
    static String lettersOf(LedTables x, int key, int form) {
        return x.read(7, key, form, 0) + " " + x.read(7, key, form, 1) + " " + x.read(7, key, form, 2) + " "
                + x.read(7, key, form, 3);
    }

    /** All that count() tells. */
    static String countsOf(LedTables x) {
        StringBuilder told = new StringBuilder();
        for (int what = 0; what <= 12; what++) {
            told.append(x.count(what)).append(' ');
        }
        return told.toString();
    }
}
