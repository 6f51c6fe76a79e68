import java.lang.reflect.Constructor;
import java.lang.reflect.Field;
import java.lang.reflect.Method;
import java.lang.reflect.Modifier;
import java.nio.file.Files;
import java.nio.file.Path;
import java.util.ArrayList;
import java.util.Arrays;
import java.util.List;
import java.util.Set;
import java.util.TreeSet;
import java.util.regex.Matcher;
import java.util.regex.Pattern;

/** The face that the document gives, and what can be seen of LANGUAGE.md's rules in the source. */
public final class LanguageTest {
    private static final String SOURCE = "src/main/java/FloatTexts.java";
    private static final int LONGEST_METHOD = 60;
    private static final String[] FACE = {
        "int type(long, int) IllegalArgumentException", "int pass()", "int clear()",
        "int read(int, int) IllegalArgumentException", "long result()", "int flags()",
        "int shortest(int, long, int) IllegalArgumentException", "int exact(int, long, int) IllegalArgumentException",
        "int middle(int, long, int) IllegalArgumentException",
        "int digits(int, long, int, int, int) IllegalArgumentException",
        "int fixed(int, long, int, int) IllegalArgumentException", "int hex(int, long) IllegalArgumentException",
        "int out(int) IndexOutOfBoundsException", "int decimal(int) IllegalArgumentException",
        "int digit(int) IndexOutOfBoundsException", "long nearest(int, long, int, int) IllegalArgumentException",
        "long power(int, long, int, int) IllegalArgumentException", "long convert(int, long, int, int) IllegalArgumentException",
        "long next(int, long, boolean) IllegalArgumentException", "long steps(int, long, long) IllegalArgumentException",
        "int compare(int, long, long) IllegalArgumentException", "int order(int, long, long) IllegalArgumentException",
        "int kind(int, long) IllegalArgumentException", "boolean reads(int, long, long, int) IllegalArgumentException",
        "boolean holds(int, long) IllegalArgumentException"
    };
    private static final String[] RULED_OUT = {
        "\\bimport\\b", "\\bpackage\\b", "->", "::", "\\btry\\b", "\\bcatch\\b", "\\bfinally\\b", "\\bsynchronized\\b",
        "\\bassert\\b", "\\bnull\\b", "\\bdouble\\b", "\\bfloat\\b", "Exact\\(", "\\bSystem\\b", "\\bstatic\\s*\\{",
        "\\bcontinue \\w", "while \\(true\\)", "for \\(;;\\)"
    };

    public static void main(String[] args) throws Exception {
        face();
        nested();
        String code = withoutComments(Files.readString(Path.of(SOURCE)));
        ruledOut(code);
        methods(code);
        Due.end(LanguageTest.class);
    }

    private static void face() {
        Class<FloatTexts> face = FloatTexts.class;
        Due.holds("the class is public and final", Modifier.isPublic(face.getModifiers()) && Modifier.isFinal(face.getModifiers()));
        Set<String> got = new TreeSet<>();
        Set<String> names = new TreeSet<>();
        for (Method method : face.getDeclaredMethods()) {
            if (Modifier.isPublic(method.getModifiers())) {
                Due.holds(method.getName() + " is no static method", !Modifier.isStatic(method.getModifiers()));
                got.add(told(method));
                names.add(method.getName());
            }
        }
        Due.same("the methods", got.toString(), new TreeSet<>(Arrays.asList(FACE)).toString());
        for (Class<?> type : all()) {
            for (Method method : type.getDeclaredMethods()) {
                Due.holds(type.getSimpleName() + "." + method.getName() + " bears no name of the face",
                    type == face && Modifier.isPublic(method.getModifiers()) || !names.contains(method.getName()));
                if (type == face) {
                    Due.holds(method.getName() + " is public or private",
                        Modifier.isPublic(method.getModifiers()) || Modifier.isPrivate(method.getModifiers()));
                }
            }
        }
        for (Field field : face.getDeclaredFields()) {
            boolean constant = field.getName().equals("NONE");
            Due.holds(field.getName() + " is private, NONE public",
                constant ? Modifier.isPublic(field.getModifiers()) : Modifier.isPrivate(field.getModifiers()));
        }
        Constructor<?>[] constructors = face.getDeclaredConstructors();
        Due.same("constructors", constructors.length, 1);
        Due.holds("it is public and takes nothing",
            Modifier.isPublic(constructors[0].getModifiers()) && constructors[0].getParameterCount() == 0);
    }

    private static String told(Method method) {
        List<String> parameters = new ArrayList<>();
        for (Class<?> type : method.getParameterTypes()) {
            parameters.add(type.getSimpleName());
        }
        StringBuilder line = new StringBuilder(method.getReturnType().getSimpleName() + " " + method.getName());
        line.append("(" + String.join(", ", parameters) + ")");
        for (Class<?> type : method.getExceptionTypes()) {
            line.append(" " + type.getSimpleName());
        }
        return line.toString();
    }

    private static List<Class<?>> all() {
        List<Class<?>> all = new ArrayList<>(List.of(FloatTexts.class));
        all.addAll(Arrays.asList(FloatTexts.class.getDeclaredClasses()));
        return all;
    }

    private static void nested() {
        Due.holds("at most twelve classes", all().size() <= 12);
        for (Class<?> type : all()) {
            int fields = 0;
            for (Field field : type.getDeclaredFields()) {
                boolean fixed = Modifier.isStatic(field.getModifiers());
                fields += fixed ? 0 : 1;
                Due.holds(type.getSimpleName() + "." + field.getName() + " is final if static",
                    !fixed || Modifier.isFinal(field.getModifiers()));
            }
            Due.holds(type.getSimpleName() + " has at most twenty fields", fields <= 20);
            Due.holds(type.getSimpleName() + " is static", type == FloatTexts.class || Modifier.isStatic(type.getModifiers()));
            for (Method method : type.getDeclaredMethods()) {
                Due.holds(method.getName() + " has at most seven parameters", method.getParameterCount() <= 7);
            }
        }
    }

    private static String withoutComments(String source) {
        for (char c : source.toCharArray()) {
            if (c > 126) {
                Due.holds("signs of the source are 1 to 126", false);
            }
        }
        return source.replaceAll("(?s)/\\*.*?\\*/", "").replaceAll("//[^\n]*", "");
    }

    private static void ruledOut(String code) {
        for (String rule : RULED_OUT) {
            Due.holds("no " + rule, !Pattern.compile(rule).matcher(code).find());
        }
        Matcher thrown = Pattern.compile("throw new (\\w+)\\((\"[^\"]*\")?\\);").matcher(code);
        int count = 0;
        while (thrown.find()) {
            count++;
            Due.holds(thrown.group(1) + " may be thrown",
                Set.of("IllegalArgumentException", "IndexOutOfBoundsException").contains(thrown.group(1)));
        }
        Due.same("throws are of this form", code.split("\\bthrow\\b", -1).length - 1, count);
    }

    private static void methods(String code) {
        Matcher body = Pattern.compile("(?m)^( {4}| {8})(?:\\S[^\n;]*)\\) (?:throws \\w+ )?\\{\n(?s:(.*?))^\\1\\}").matcher(code);
        int count = 0;
        while (body.find()) {
            count++;
            long lines = body.group().lines().count();
            Due.holds("at most " + LONGEST_METHOD + " lines: " + body.group().lines().findFirst().orElse(""), lines <= LONGEST_METHOD);
        }
        Due.holds("methods were found, " + count, count > 60);
    }
}
