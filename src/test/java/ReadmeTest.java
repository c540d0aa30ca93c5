import java.io.File;
import java.io.IOException;
import java.lang.reflect.InvocationTargetException;
import java.lang.reflect.Method;
import java.lang.reflect.Modifier;
import java.nio.charset.StandardCharsets;
import java.nio.file.Files;
import java.nio.file.Path;
import java.util.ArrayList;
import java.util.Arrays;
import java.util.HashMap;
import java.util.List;
import java.util.Map;
import java.util.regex.Matcher;
import java.util.regex.Pattern;
import java.util.stream.Stream;

/** README.md holds: its program prints what it says, and each row of its table is what the call does. */
public final class ReadmeTest {
    private static final Checks CHECKS = new Checks("ReadmeTest");
    private static final Pattern SIGNATURE = Pattern.compile("`(\\w+)\\(([^)]*)\\)`");
    private static final Pattern RANGE = Pattern.compile("(-?\\d+) to (-?\\d+)");

    /** Arguments with which each call goes well. */
    private static final Map<String, Integer> USUAL = Map.ofEntries(
            Map.entry("left", 5), Map.entry("right", 6), Map.entry("sign", 1), Map.entry("number", 3),
            Map.entry("strength", 1), Map.entry("k", 0), Map.entry("place", 2), Map.entry("stay", 5),
            Map.entry("wish", 7), Map.entry("value", 4), Map.entry("code", 97), Map.entry("what", 0),
            Map.entry("one", 0), Map.entry("other", 1), Map.entry("asked", 3));

    /** A row of the table: a call with its marks, and the bounds and the exception of each argument. */
    private record Row(String name, List<String> parameters, String marks, Map<String, String> bounds, String exceptions) {
        /** Cells: nothing, the call, its marks, what it does, the bounds, the exceptions. */
        static Row of(String line) {
            String[] cells = line.split("\\|", -1);
            Matcher call = SIGNATURE.matcher(cells[1]);
            if (cells.length != 7 || !call.find()) {
                return null;
            }
            List<String> parameters = call.group(2).isEmpty() ? List.of() : Arrays.asList(call.group(2).split(", "));
            Map<String, String> bounds = new HashMap<>();
            for (String each : cells[4].split(";")) {
                if (!each.isBlank()) {
                    bounds.put(each.split("`")[1], each.split("`")[2]);
                }
            }
            return new Row(call.group(1), parameters, cells[2].trim(), bounds, cells[5].trim());
        }

        Class<?> exceptionOf(String parameter) {
            String index = exceptions.replaceAll("(Argument|State): .*", "");
            return index.contains("`" + parameter + "`") ? IndexOutOfBoundsException.class
                    : IllegalArgumentException.class;
        }
    }

    public static void main(String[] args)
            throws IOException, InterruptedException, ReflectiveOperationException {
        String page = Files.readString(Path.of("README.md"));
        String printed = output(block(page, "java"));
        CHECKS.due("the program of the page, which prints: " + printed, printed.equals(block(page, "text")) ? 1 : 0, 1);
        Map<String, Row> rows = new HashMap<>();
        for (String line : page.split("\n")) {
            Row row = line.startsWith("| `") ? Row.of(line) : null;
            if (row != null) {
                CHECKS.due("rows of " + row.name + " before it", rows.containsKey(row.name) ? 1 : 0, 0);
                rows.put(row.name, row);
            }
        }
        calls(rows);
        tests(page);
        CHECKS.end();
    }

    private static String block(String page, String kind) {
        String start = "```" + kind + "\n";
        int from = page.indexOf(start) + start.length();
        return page.substring(from, page.indexOf("```", from));
    }

    // ---- the program

    private static String output(String program) throws IOException, InterruptedException {
        Path directory = Files.createTempDirectory("readme");
        String classes = System.getProperty("java.class.path");
        Path source = Files.writeString(directory.resolve("Example.java"), program);
        told("javac", "-cp", classes, "-d", directory.toString(), source.toString());
        String printed = told("java", "-cp", directory + File.pathSeparator + classes, "Example");
        try (Stream<Path> files = Files.list(directory)) {
            for (Path file : files.toList()) {
                Files.delete(file);
            }
        }
        Files.delete(directory);
        return printed;
    }

    private static String told(String... command) throws IOException, InterruptedException {
        Process process = new ProcessBuilder(command).redirectError(ProcessBuilder.Redirect.INHERIT).start();
        String told = new String(process.getInputStream().readAllBytes(), StandardCharsets.UTF_8);
        CHECKS.due("exit code of " + command[0], process.waitFor(), 0);
        return told;
    }

    // ---- the table

    private static void calls(Map<String, Row> rows) throws ReflectiveOperationException {
        List<String> names = new ArrayList<>();
        for (Method method : StrengthLayout.class.getDeclaredMethods()) {
            if (Modifier.isPublic(method.getModifiers())) {
                names.add(method.getName());
                call(method, rows.get(method.getName()));
            }
        }
        CHECKS.due("no other rows", rows.keySet().stream().filter(name -> !names.contains(name)).count(), 0);
    }

    private static void call(Method method, Row row) throws ReflectiveOperationException {
        if (row == null || row.parameters.size() != method.getParameterCount()) {
            CHECKS.fail("the table has no row for " + method);
            return;
        }
        List<String> thrown = new ArrayList<>();
        for (String each : row.exceptions.split("; ")) {
            thrown.add(each.replaceAll(":.*", ""));
        }
        List<String> due = new ArrayList<>();
        for (Class<?> each : method.getExceptionTypes()) {
            due.add(each.getSimpleName().replaceAll("^Illegal|OutOfBoundsException$|Exception$", ""));
        }
        CHECKS.due("the exceptions of " + row.name, thrown.equals(due.isEmpty() ? List.of("") : due) ? 1 : 0, 1);
        CHECKS.due("bounds of " + row.name, row.bounds.size(), row.parameters.size());
        marks(method, row);
        for (String parameter : row.parameters) {
            bounds(method, row, parameter);
        }
    }

    /** a is 20 though it should be at most 5, condition 1, so that each call that settles moves it. */
    private static void marks(Method method, Row row) throws ReflectiveOperationException {
        StrengthLayout unsettled = new StrengthLayout();
        unsettled.add(1, -1, 0, 5, 1);
        unsettled.add(0, -1, 0, 5, 1);
        unsettled.edit(0, 20, 1);
        unsettled.endEdits();
        write(unsettled);
        int states = unsettled.count(4);
        Class<?> thrown = thrown(method, unsettled, arguments(row));
        boolean asksForAnEdit = row.name.equals("edited");
        CHECKS.due(row.name + " goes well", thrown == null || asksForAnEdit ? 1 : 0, 1);
        CHECKS.due(row.name + " is undoable", unsettled.count(4) > states ? 1 : 0, row.marks.contains("U") ? 1 : 0);
        CHECKS.due(row.name + " settles", unsettled.place(0, 0) != 20 ? 1 : 0, row.marks.contains("S") ? 1 : 0);
    }

    private static void bounds(Method method, Row row, String parameter) throws ReflectiveOperationException {
        StrengthLayout x = edited();
        String told = row.bounds.getOrDefault(parameter, "");
        Matcher range = RANGE.matcher(told);
        int least = 0;
        int greatest = told.contains("a condition") ? x.count(0) - 1 : x.count(2) - 1;
        if (range.find()) {
            least = Integer.parseInt(range.group(1));
            greatest = Integer.parseInt(range.group(2));
        } else {
            CHECKS.due("bounds of " + parameter + " of " + row.name + " are told",
                    told.contains("a condition") || told.contains("an edit") ? 1 : 0, 1);
        }
        least = told.contains("or -1") ? -1 : least;
        for (int value : new int[] {least - 1, least, greatest, greatest + 1}) {
            int[] arguments = arguments(row);
            arguments[row.parameters.indexOf(parameter)] = value;
            Class<?> due = value < least || value > greatest ? row.exceptionOf(parameter) : null;
            CHECKS.due(row.name + " with " + parameter + " " + value, thrown(method, edited(), arguments) == due ? 1 : 0, 1);
        }
    }

    private static StrengthLayout edited() {
        StrengthLayout x = new StrengthLayout();
        x.add(0, -1, 0, 5, 1);
        x.add(1, -1, 0, 5, 1);
        x.edit(4, 7, 0);
        write(x);
        return x;
    }

    private static void write(StrengthLayout x) {
        x.append('c');
        x.append('<');
        x.append('0');
    }

    private static int[] arguments(Row row) {
        return row.parameters.stream().mapToInt(USUAL::get).toArray();
    }

    private static Class<?> thrown(Method method, StrengthLayout x, int[] arguments) throws IllegalAccessException {
        try {
            method.invoke(x, Arrays.stream(arguments).boxed().toArray());
            return null;
        } catch (InvocationTargetException e) {
            return e.getCause().getClass();
        }
    }

    // ---- the tests that it names

    private static void tests(String page) throws IOException {
        try (Stream<Path> files = Files.list(Path.of("src/test/java"))) {
            for (Path file : files.toList()) {
                String name = file.getFileName().toString().replace(".java", "");
                boolean named = page.contains("`" + name + "`");
                CHECKS.due("README.md names " + name, named || !name.endsWith("Test") ? 1 : 0, 1);
            }
        }
    }
}
