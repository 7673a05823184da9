import java.io.IOException;
import java.lang.reflect.Constructor;
import java.lang.reflect.Field;
import java.lang.reflect.Method;
import java.lang.reflect.Modifier;
import java.nio.charset.StandardCharsets;
import java.nio.file.Files;
import java.nio.file.Path;
import java.util.ArrayList;
import java.util.Arrays;
import java.util.List;
import java.util.Set;
import java.util.TreeSet;
import java.util.regex.Matcher;
import java.util.regex.Pattern;

/** What of LANGUAGE.md, and of the document's face, can be seen from the class and its text. */
public final class RulesTest {
    private static final String[] FACE = {
        "feed(int,int,int,int,int):int", "lens(int):int", "fault():int", "see(int,int,int,int,int):int",
        "put(int,int,int,int,int,int):int", "box(int,int,int):void", "agree(int,int):int", "unlike(int):int",
        "lost():int", "wrong():int", "change():int", "hold(int,int,int):int", "order(int,int,boolean):int",
        "program():int", "need(int,int,int):int", "price(int,int):int", "stands(int,int):boolean",
        "way(int,int,int):int", "fewest(int,int):int", "isBack(int,int):boolean", "last(int,int):int", "go():int",
        "back():int", "insert(int):int", "delete(int):boolean", "read(int,int,int,int):int",
        "write(int,int,int,int,int):int", "first(int):int", "tick(int):int", "bite(int):int", "fall(int):int",
        "row(int,int):int", "quiet(int):int", "asked(int,int,int,boolean):int", "still(int,int):int",
        "sum(int,int):int", "halves(int,int):int", "mend(int):boolean", "count(int):int",
    };

    private static int wrong = 0;

    private static void holds(boolean is, String what) {
        if (!is) {
            wrong++;
            System.out.println("not kept: " + what);
        }
    }

    private static String signature(Method method) {
        List<String> types = new ArrayList<>();
        for (Class<?> type : method.getParameterTypes()) {
            types.add(type.getSimpleName());
        }
        return method.getName() + "(" + String.join(",", types) + "):" + method.getReturnType().getSimpleName();
    }

    private static void checkFace() {
        Set<String> face = new TreeSet<>();
        Set<String> names = new TreeSet<>();
        for (Method method : LedTables.class.getDeclaredMethods()) {
            if (Modifier.isPublic(method.getModifiers())) {
                face.add(signature(method));
                names.add(method.getName());
            } else {
                holds(Modifier.isPrivate(method.getModifiers()), "rule 1: private " + method);
            }
        }
        holds(face.equals(new TreeSet<>(Arrays.asList(FACE))), "rule 1: the face is " + face);
        int mods = LedTables.class.getModifiers();
        holds(Modifier.isPublic(mods) && Modifier.isFinal(mods), "rule 1: public and final");
        Constructor<?>[] constructors = LedTables.class.getDeclaredConstructors();
        holds(constructors.length == 1 && constructors[0].getParameterCount() == 0, "rule 1: one constructor");
        for (Field field : LedTables.class.getDeclaredFields()) {
            boolean named = Set.of("NONE", "VOID").contains(field.getName());
            holds(named ? Modifier.isPublic(field.getModifiers()) : Modifier.isPrivate(field.getModifiers()),
                    "rule 1: " + field);
        }
        checkInside(LedTables.class, names);
    }

    /** Each line of the face as the document has it, its exceptions too, stands in the class. */
    private static void checkDocument(String text) throws IOException {
        Path path = Path.of("../shared/DOC.md");
        if (!Files.exists(path)) {
            return;
        }
        String code = text.replaceAll("\\s+", " ");
        int lines = 0;
        for (String line : Files.readAllLines(path, StandardCharsets.UTF_8)) {
            if (line.startsWith("    public ") && line.endsWith(";")) {
                String bare = line.trim();
                String due = bare.contains("(") ? bare.substring(0, bare.length() - 1) + " {" : bare;
                holds(code.contains(due), "the face: " + bare);
                lines++;
            }
        }
        holds(lines == FACE.length + 3, "the face has " + lines + " lines");
    }

    private static void checkInside(Class<?> outer, Set<String> names) {
        checkFields(outer);
        for (Class<?> inside : outer.getDeclaredClasses()) {
            int mods = inside.getModifiers();
            holds(Modifier.isStatic(mods) && !Modifier.isPublic(mods) && !Modifier.isProtected(mods),
                    "rule 1: static and not public: " + inside);
            for (Method method : inside.getDeclaredMethods()) {
                holds(!names.contains(method.getName()), "rule 1: a name of the face: " + method);
                holds(method.getParameterCount() <= 7, "rule 11: parameters of " + method);
            }
            checkInside(inside, names);
        }
    }

    private static void checkFields(Class<?> type) {
        int own = 0;
        for (Field field : type.getDeclaredFields()) {
            if (Modifier.isStatic(field.getModifiers())) {
                holds(Modifier.isFinal(field.getModifiers()), "rule 5: final " + field);
            } else {
                own++;
            }
        }
        holds(own <= 20, "rule 11: fields of " + type);
    }

    private static void lacks(String text, String pattern, String rule) {
        Matcher found = Pattern.compile(pattern).matcher(text);
        holds(!found.find(), rule + ": " + pattern);
    }

    private static void checkText(String text) {
        lacks(text, "[^\\x00-\\x7f]", "rule 4");
        String code = text.replaceAll("(?s)/\\*.*?\\*/", "").replaceAll("//[^\n]*", "")
                .replaceAll("\"[^\"\n]*\"", "\"\"").replaceAll("'[^'\n]+'", "' '");
        lacks(code, "\\bpackage\\b", "the file");
        lacks(code, "import (?!java\\.util\\.NoSuchElementException;)", "rule 4");
        lacks(code, "->|::|\\bvar\\b", "rule 2");
        lacks(code, "\\b(try|catch|finally|synchronized|assert|native|transient|volatile)\\b", "rule 6");
        lacks(code, "throw (?!new (IllegalStateException|IllegalArgumentException|IndexOutOfBoundsException"
                + "|NoSuchElementException)\\(\"\"\\);)", "rule 6");
        lacks(code, "\\b(System\\.(?!arraycopy)|Thread|Runtime|Exact\\()", "rule 13");
        lacks(code, "\\bwhile\\b|\\bdo\\b", "rule 9, as this class keeps it");
        lacks(code, "\\bstatic \\{", "rule 5");
        lacks(code, "\"\" \\+|\\+ \"\"", "rule 10");
        int classes = 0;
        for (Matcher m = Pattern.compile("\\b(class|record|enum|interface) [A-Z]").matcher(code); m.find();) {
            classes++;
        }
        holds(classes <= 12, "rule 11: " + classes + " classes");
    }

    private static void checkLengths(String text) {
        String[] lines = text.split("\n");
        Pattern head = Pattern.compile("^( {4}| {8})[a-zA-Z].*\\) ?.*\\{$");
        for (int i = 0; i < lines.length; i++) {
            Matcher m = head.matcher(lines[i]);
            if (m.matches() && !lines[i].contains(" class ")) {
                int end = i;
                while (end < lines.length - 1 && !lines[end].equals(m.group(1) + "}")) {
                    end++;
                }
                holds(end - i < 60, "rule 11: a long method at line " + (i + 1));
            }
        }
    }

    public static void main(String[] args) throws IOException {
        checkFace();
        String text = Files.readString(Path.of("src/main/java/LedTables.java"), StandardCharsets.ISO_8859_1);
        checkDocument(text);
        checkText(text);
        checkLengths(text);
        System.out.println("rules not kept: " + wrong);
        if (wrong > 0) {
            System.exit(1);
        }
    }
}
