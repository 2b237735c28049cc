import java.io.IOException;
import java.lang.management.ManagementFactory;
import java.lang.reflect.Constructor;
import java.lang.reflect.Field;
import java.lang.reflect.Method;
import java.lang.reflect.Modifier;
import java.nio.file.Files;
import java.nio.file.Path;
import java.util.Arrays;
import java.util.TreeSet;
import java.util.regex.Matcher;
import java.util.regex.Pattern;

/** What LANGUAGE.md asks and can be seen from the class, its text and what its runs make. */
public final class LanguageTests {
    private static final String[] FACE = {
        "public int RobotCell.fault(int)",
        "public int RobotCell.logs()",
        "public int RobotCell.order(int,int,int,int)",
        "public int RobotCell.run(int)",
        "public int RobotCell.slot(int,int)",
        "public long RobotCell.bits(int)",
        "public long RobotCell.logged(int)",
        "public long RobotCell.place(int,int) throws java.lang.IllegalStateException,"
            + "java.lang.IndexOutOfBoundsException",
        "public long RobotCell.told(int)",
        "public void RobotCell.clear()",
        "public void RobotCell.number(int,int,int)",
        "public void RobotCell.reset()"
    };

    private LanguageTests() {
    }

    public static void main(String[] args) throws IOException {
        theFace();
        theClasses();
        theText();
        whatRunsMake();
        howDeepRunsGo();
        Check.end();
    }

    private static void theFace() {
        Class<?> face = RobotCell.class;
        Check.that("rule 1: public and final", Modifier.isPublic(face.getModifiers())
                && Modifier.isFinal(face.getModifiers()));
        TreeSet<String> methods = new TreeSet<>();
        TreeSet<String> names = new TreeSet<>();
        for (Method method : face.getDeclaredMethods()) {
            if (!Modifier.isPrivate(method.getModifiers())) {
                methods.add(method.toString());
                names.add(method.getName());
            }
        }
        Check.that("rule 1: the methods are " + methods, methods.equals(new TreeSet<>(Arrays.asList(FACE))));
        for (Method method : face.getDeclaredMethods()) {
            Check.that("rule 1: private " + method.getName(), !Modifier.isPrivate(method.getModifiers())
                    || !names.contains(method.getName()));
        }
        for (Field field : face.getDeclaredFields()) {
            Check.that("rule 1: field " + field.getName(), Modifier.isPrivate(field.getModifiers())
                    || field.toString().equals("public static final int RobotCell.NONE"));
        }
        Constructor<?>[] constructors = face.getDeclaredConstructors();
        Check.that("rule 1: the constructor", constructors.length == 1
                && constructors[0].toString().equals("public RobotCell()"));
    }

    private static void theClasses() {
        Class<?>[] inside = RobotCell.class.getDeclaredClasses();
        Check.that("rule 11: classes", inside.length + 1 <= 12);
        for (Class<?> one : inside) {
            Check.that("rule 1: " + one, Modifier.isStatic(one.getModifiers())
                    && !Modifier.isPublic(one.getModifiers()) && !Modifier.isProtected(one.getModifiers()));
            Check.that("rule 11: fields of " + one, fieldsOf(one) <= 20);
            for (Method method : one.getDeclaredMethods()) {
                Check.that("rule 11: parameters of " + method, method.getParameterCount() <= 7);
            }
        }
        Check.that("rule 11: fields of the face", fieldsOf(RobotCell.class) <= 20);
    }

    private static int fieldsOf(Class<?> one) {
        int count = 0;
        for (Field field : one.getDeclaredFields()) {
            boolean isStatic = Modifier.isStatic(field.getModifiers());
            Check.that("rule 5: " + field, !isStatic || Modifier.isFinal(field.getModifiers()));
            count += isStatic ? 0 : 1;
        }
        return count;
    }

    private static void theText() throws IOException {
        String text = Files.readString(Path.of("src/main/java/RobotCell.java"));
        String code = text.replaceAll("(?s)/\\*.*?\\*/", " ").replaceAll("//[^\n]*", " ");
        String[] words = {"double", "float", "finally", "synchronized", "assert", "package", "catch", "try", "var",
            "equals", "hashCode", "toString", "getClass", "System\\.(?!arraycopy\\()\\w*", "\\w+Exact", "->", "::",
            "static \\{"};
        for (String word : words) {
            boolean named = Character.isLetter(word.charAt(0));
            Matcher found = Pattern.compile(named ? "\\b" + word + "(?!\\w)" : word).matcher(code);
            Check.that("rules 3 to 6: no " + word, !found.find());
        }
        Matcher imports = Pattern.compile("import [^;]*;").matcher(code);
        while (imports.find()) {
            Check.that("rule 4: " + imports.group(), imports.group().equals("import java.util.Arrays;"));
        }
        Matcher thrown = Pattern.compile("throw\\b[^;]*;").matcher(code);
        int throwing = 0;
        while (thrown.find()) {
            throwing++;
            Check.that("rule 6: " + thrown.group(), thrown.group().matches(
                    "throw new (IllegalStateException|IndexOutOfBoundsException)\\(\"[^\"]*\"\\);"));
        }
        Check.same("rule 6: only place throws", throwing, 2);
        Check.that("rule 4: signs 1 to 127", text.chars().allMatch(sign -> sign >= 1 && sign <= 127));
    }

    /** All fuel, many runs, all kinds of orders that make no things: nothing may be made on the way. */
    private static void whatRunsMake() {
        RobotCell x = Check.cell(88, 13, 0, 0, 88, 15, 0, 2, 88, 14, 0, 3, 80, 11, 0, 0, 1, 1, 0, 3, 40, 8, 1, 8,
                24, 1, 1, 3);
        x.run(100);
        x.clear();
        Check.more(x, 1, 0, 1, 0, 15, 0, 3, 0, 0, 0, 0, 0, 89, 2, 13, 1, 89, 2, 15, 1, 92, 14, 1, 0, 90, 3, 14, 0,
                29, 4, 1, 3, 30, 5, 1, 5, 84, 6, 11, 11, 43, 8, 8, 2, 72, 11, 8, 3, 16, 7, -1, 0, 17, 0, 15, 15,
                0, 0, 0, 0, 20, 0, 0, 0);
        Check.same("rule 12: a long run", x.run(20000), Check.STOPPED);
        com.sun.management.ThreadMXBean threads =
                (com.sun.management.ThreadMXBean) ManagementFactory.getThreadMXBean();
        long before = threads.getCurrentThreadAllocatedBytes();
        for (int i = 0; i < 200; i++) {
            x.run(20000);
        }
        long made = threads.getCurrentThreadAllocatedBytes() - before;
        Check.that("rule 12: " + made + " bytes made by runs", made < 100000);
    }

    /** Blocks that begin themselves without end are cut at 40, so that calls in one another stay few. */
    private static void howDeepRunsGo() {
        for (int operation = 14; operation <= 17; operation++) {
            RobotCell x = Check.cell(1, 0, 0, 1, operation, 0, 0, -1, 0, 0, 0, 0);
            Check.same("rule 8: 40 blocks", x.run(20000), Check.DEEP);
        }
    }
}
