import java.io.IOException;
import java.lang.reflect.Executable;
import java.lang.reflect.Field;
import java.lang.reflect.Method;
import java.lang.reflect.Modifier;
import java.nio.file.Files;
import java.nio.file.Path;
import java.util.ArrayList;
import java.util.Arrays;
import java.util.List;
import java.util.TreeSet;
import java.util.regex.Matcher;
import java.util.regex.Pattern;

/** The face is that of the document, and nothing more; and what a scan can see of ../shared/LANGUAGE.md is kept. */
public final class FaceTest {
    private static final Checks CHECKS = new Checks("FaceTest");

    private static final List<String> FACE = List.of(
            "int add(int, int, int, int, int) Index Argument State",
            "int remove(int) Index",
            "int setStrength(int, int) Index Argument",
            "int setNumber(int, int) Index Argument",
            "int setStay(int, int) Index Argument",
            "int edit(int, int, int) Index Argument State",
            "int endEdits()",
            "int settleFrom(int) Argument",
            "int append(int) Argument State",
            "int clearBuffer()",
            "int firstError()",
            "int load() Argument State",
            "int undo() State",
            "int place(int, int) Index Argument",
            "int condition(int, int) Index Argument",
            "int edited(int, int) Index Argument",
            "int widest(int, int) Index",
            "int count(int) Argument",
            "int ifEdited(int, int, int, int) Index Argument",
            "int ifRemoved(int) Index",
            "int neededStrength(int) Index",
            "float freedom()",
            "long digest()");

    /** What rules 2, 4, 5, 6 and 13 leave out, as it would stand in the source. */
    private static final List<String> LEFT_OUT = List.of(
            "->", "::", "\\bcatch\\b", "\\bfinally\\b", "\\bsynchronized\\b", "\\bassert\\b", "\\bstatic \\{",
            "\\bSystem\\.(?!arraycopy)", "\\bMath\\.\\w*Exact\\b", "\\bObject\\b", "\\bpackage\\b", "\\bimport\\b",
            "\\bRandom\\b", "\\bThread\\b", "\\bFloat\\b", "\\bDouble\\b", "\\.(equals|hashCode|toString)\\(");

    public static void main(String[] args) throws IOException {
        face();
        privateNames();
        constants();
        source(Files.readString(Path.of("src/main/java/StrengthLayout.java")));
        floatBits();
        CHECKS.end();
    }

    private static String signature(Method method) {
        StringBuilder text = new StringBuilder(method.getReturnType().getSimpleName() + " " + method.getName() + "(");
        Class<?>[] parameters = method.getParameterTypes();
        for (int i = 0; i < parameters.length; i++) {
            text.append(i == 0 ? "" : ", ").append(parameters[i].getSimpleName());
        }
        text.append(")");
        for (Class<?> thrown : method.getExceptionTypes()) {
            String name = thrown.getSimpleName();
            text.append(' ').append(name.replaceAll("^Illegal|OutOfBoundsException$|Exception$", ""));
        }
        return text.toString();
    }

    private static void face() {
        Class<?> face = StrengthLayout.class;
        CHECKS.due("public and final", face.getModifiers(), Modifier.PUBLIC | Modifier.FINAL);
        List<String> methods = new ArrayList<>();
        for (Method method : face.getDeclaredMethods()) {
            if (!Modifier.isPrivate(method.getModifiers()) && !method.isSynthetic()) {
                methods.add(signature(method));
                CHECKS.due("public alone: " + method, method.getModifiers(), Modifier.PUBLIC);
            }
        }
        CHECKS.due("the methods " + methods, new TreeSet<>(methods).equals(new TreeSet<>(FACE)) ? 1 : 0, 1);
        Executable[] constructors = face.getDeclaredConstructors();
        CHECKS.due("constructors", constructors.length, 1);
        CHECKS.due("its parameters", constructors[0].getParameterCount(), 0);
        CHECKS.due("it is public", constructors[0].getModifiers(), Modifier.PUBLIC);
        for (Field field : face.getDeclaredFields()) {
            boolean constant = field.getName().equals("NONE");
            CHECKS.due("modifier of " + field, Modifier.isPublic(field.getModifiers()) ? 1 : 0, constant ? 1 : 0);
            CHECKS.due("private: " + field, Modifier.isPrivate(field.getModifiers()) ? 1 : 0, constant ? 0 : 1);
        }
    }

    /** Rule 1: no private method bears the name of a public one. */
    private static void privateNames() {
        List<String> names = new ArrayList<>();
        FACE.forEach(method -> names.add(method.replaceAll("^\\w+ |\\(.*$", "")));
        for (Method method : StrengthLayout.class.getDeclaredMethods()) {
            if (Modifier.isPrivate(method.getModifiers()) && names.contains(method.getName())) {
                CHECKS.fail("private with a name of the face: " + method);
            }
        }
        for (Class<?> inside : StrengthLayout.class.getDeclaredClasses()) {
            CHECKS.due("static inside: " + inside, Modifier.isStatic(inside.getModifiers()) ? 1 : 0, 1);
            for (Method method : inside.getDeclaredMethods()) {
                CHECKS.due("name of " + method, names.contains(method.getName()) ? 1 : 0, 0);
            }
        }
        CHECKS.due("some twelve classes", StrengthLayout.class.getDeclaredClasses().length <= 12 ? 1 : 0, 1);
    }

    private static void constants() {
        List<Class<?>> classes = new ArrayList<>(Arrays.asList(StrengthLayout.class.getDeclaredClasses()));
        classes.add(StrengthLayout.class);
        for (Class<?> each : classes) {
            int own = 0;
            for (Field field : each.getDeclaredFields()) {
                boolean fixed = Modifier.isStatic(field.getModifiers());
                own += fixed ? 0 : 1;
                CHECKS.due("final: " + field, !fixed || Modifier.isFinal(field.getModifiers()) ? 1 : 0, 1);
            }
            CHECKS.due("some twenty fields of " + each, own <= 20 ? 1 : 0, 1);
        }
    }

    private static void source(String text) {
        String code = text.replaceAll("(?s)/\\*.*?\\*/", "").replaceAll("//[^\n]*", "").replaceAll("\"[^\"\n]*\"", "\"\"");
        for (String left : LEFT_OUT) {
            Matcher found = Pattern.compile(left).matcher(code);
            CHECKS.due("the source has " + left, found.find() ? 1 : 0, 0);
        }
        for (char c : text.toCharArray()) {
            if (c > 127) {
                CHECKS.fail("a sign beyond 127 in the source: " + c);
            }
        }
        int lines = 0;
        for (String line : code.split("\n")) {
            boolean starts = line.matches(" {4,8}[a-z].*\\{") && line.contains("(") || line.matches(" {4,8}int \\w+\\(.*");
            lines = starts ? 0 : lines + 1;
            if (line.matches(" {4}\\}| {8}\\}") && lines > 60) {
                CHECKS.fail("a method of more than sixty lines ends with: " + line);
            }
        }
    }

    /** The program works out the bits of freedom by itself; here for each width that there can be. */
    private static void floatBits() {
        try {
            Method bits = StrengthLayout.class.getDeclaredMethod("bitsOf", float.class);
            bits.setAccessible(true);
            for (int width = 0; width <= 20000; width++) {
                float freedom = (float) width / 20000.0f;
                CHECKS.due("bitsOf " + freedom, (Integer) bits.invoke(null, freedom), Float.floatToIntBits(freedom));
            }
        } catch (ReflectiveOperationException e) {
            CHECKS.fail("bitsOf cannot be called: " + e);
        }
    }
}
