import java.io.IOException;
import java.lang.reflect.Constructor;
import java.lang.reflect.Field;
import java.lang.reflect.Method;
import java.lang.reflect.Modifier;
import java.nio.file.Files;
import java.nio.file.Path;
import java.util.Set;
import java.util.TreeSet;
import java.util.regex.Matcher;
import java.util.regex.Pattern;

/** The class has the document's face and no other, and keeps to those rules of LANGUAGE.md that a test can see. */
public final class FaceTest {
    private static final String[] FACE = {
        "boolean parts(int)", "boolean part(int,int,int,int)", "int single(int)", "int row(int,int)",
        "int side(int,int)", "int some(int,long,int,int)", "int dual(int)", "boolean system(int)", "int says(int,int)",
        "int differ(int,int)", "int sets(int)", "int set(int,int)", "boolean see(int,int)", "int partOf(int,int)",
        "int sure()", "long told(int)", "long of(int,int)", "int order(int)", "int ratios(boolean,boolean)",
        "int ordered(int)", "int run(int,int)", "int looked(int)", "int about(int)"};
    private static final String FORBIDDEN = "\\b(throw|try|catch|synchronized|assert|import|package|native|volatile"
            + "|transient|System|Object|var|double|float|Thread|equals|hashCode|toString|\\w+Exact)\\b|->|::|@|\"";

    private static final Checks CHECKS = new Checks();

    public static void main(String[] args) throws IOException {
        face();
        insides();
        String source = Files.readString(Path.of("src/main/java/LookBench.java"));
        words(source);
        lengths(source);
        CHECKS.end();
    }

    private static void face() {
        CHECKS.at("the face");
        CHECKS.due("public final", LookBench.class.getModifiers(), Modifier.PUBLIC | Modifier.FINAL);
        Set<String> found = new TreeSet<>();
        for (Method m : LookBench.class.getDeclaredMethods()) {
            if (Modifier.isPublic(m.getModifiers()) && !Modifier.isStatic(m.getModifiers())) {
                found.add(signature(m));
            } else {
                CHECKS.due("private " + m, Modifier.isPrivate(m.getModifiers()), true);
            }
        }
        CHECKS.due("the methods " + found, found.equals(new TreeSet<>(Set.of(FACE))), true);
        Constructor<?>[] made = LookBench.class.getDeclaredConstructors();
        CHECKS.due("constructors", made.length, 1);
        CHECKS.due("public constructor", Modifier.isPublic(made[0].getModifiers()), true);
        CHECKS.due("its parameters", made[0].getParameterCount(), 0);
        for (Field field : LookBench.class.getDeclaredFields()) {
            boolean isNone = field.getName().equals("NONE");
            CHECKS.due("public " + field, Modifier.isPublic(field.getModifiers()), isNone);
            CHECKS.due("private " + field, Modifier.isPrivate(field.getModifiers()), !isNone);
        }
    }

    private static String signature(Method m) {
        StringBuilder text = new StringBuilder(m.getReturnType() + " " + m.getName() + "(");
        for (int i = 0; i < m.getParameterCount(); i++) {
            text.append(i == 0 ? "" : ",").append(m.getParameterTypes()[i]);
        }
        return text.append(")").toString();
    }

    private static void insides() {
        CHECKS.at("the classes inside");
        Set<String> names = new TreeSet<>();
        for (String s : FACE) {
            names.add(s.substring(s.indexOf(' ') + 1, s.indexOf('(')));
        }
        CHECKS.due("at most twelve classes", LookBench.class.getDeclaredClasses().length <= 11, true);
        for (Class<?> inside : LookBench.class.getDeclaredClasses()) {
            CHECKS.due("static " + inside, Modifier.isStatic(inside.getModifiers()), true);
            CHECKS.due("not public " + inside, Modifier.isPublic(inside.getModifiers()), false);
            for (Method m : inside.getDeclaredMethods()) {
                CHECKS.due("a public one's name " + m, names.contains(m.getName()), false);
                CHECKS.due("at most seven parameters " + m, m.getParameterCount() <= 7, true);
            }
            int fields = 0;
            for (Field field : inside.getDeclaredFields()) {
                int how = field.getModifiers();
                fields += Modifier.isStatic(how) ? 0 : 1;
                CHECKS.due("static is final " + field, !Modifier.isStatic(how) || Modifier.isFinal(how), true);
            }
            CHECKS.due("at most twenty fields in " + inside, fields <= 20, true);
        }
    }

    private static void words(String source) {
        CHECKS.at("the words");
        String code = source.replaceAll("(?s)/\\*.*?\\*/", " ").replaceAll("//[^\n]*", " ");
        Matcher matcher = Pattern.compile(FORBIDDEN).matcher(code);
        boolean found = matcher.find();
        CHECKS.due("a forbidden word " + (found ? matcher.group() : ""), found, false);
        CHECKS.due("plain characters", source.chars().allMatch(c -> c < 128), true);
    }

    /** A method ends with the first brace that stands as far in as its head. */
    private static void lengths(String source) {
        CHECKS.at("the methods' lengths");
        Matcher method = Pattern.compile("(?ms)^( +)\\w[^\\n;=]*\\) \\{\\n.*?^\\1\\}$").matcher(source);
        int methods = 0;
        while (method.find()) {
            String head = method.group().lines().findFirst().orElseThrow().trim();
            CHECKS.due("at most sixty lines: " + head, method.group().lines().count() <= 60, true);
            methods++;
        }
        CHECKS.due("all methods of the face are found", methods >= FACE.length, true);
    }
}
