import java.io.IOException;
import java.lang.reflect.Method;
import java.lang.reflect.Modifier;
import java.nio.file.Files;
import java.nio.file.Path;
import java.util.Arrays;
import java.util.List;
import java.util.TreeSet;
import java.util.regex.Matcher;
import java.util.regex.Pattern;
import java.util.stream.Stream;

/** README.md tells how the class is used and tested as it stands now: its examples are run, its tables compared. */
public final class ReadmeTest {
    private static final Due DUE = new Due("ReadmeTest");
    private static final Pattern CALL = Pattern.compile("x\\.(\\w+)\\((.*)\\); +// (-?\\d+)(:.*)?");

    public static void main(String[] args) throws IOException, ReflectiveOperationException {
        List<String> lines = Files.readString(Path.of("README.md")).lines().toList();
        examples(lines);
        calls(lines);
        tests(lines);
        DUE.end();
    }

    private static void examples(List<String> lines) throws ReflectiveOperationException {
        DUE.sentence("the examples");
        HatsOfTheWind x = null;
        boolean inside = false;
        for (String line : lines) {
            if (line.startsWith("```")) {
                inside = line.equals("```java");
            } else if (inside && line.equals("HatsOfTheWind x = new HatsOfTheWind();")) {
                x = new HatsOfTheWind();
            } else if (inside) {
                Matcher call = CALL.matcher(line);
                DUE.isTrue("a call with its answer: " + line, call.matches());
                DUE.is(line, answer(x, call.group(1), call.group(2)), Long.parseLong(call.group(3)));
            }
        }
    }

    private static long answer(HatsOfTheWind x, String name, String told) throws ReflectiveOperationException {
        Object[] arguments = Stream.of(told.split(", ")).map(ReadmeTest::number).toArray();
        Class<?>[] types = new Class<?>[arguments.length];
        Arrays.fill(types, int.class);
        return ((Number) HatsOfTheWind.class.getMethod(name, types).invoke(x, arguments)).longValue();
    }

    private static Object number(String told) {
        return told.startsWith("'") ? (int) told.charAt(1) : Integer.valueOf(told);
    }

    private static void calls(List<String> lines) {
        DUE.sentence("the calls by groups");
        TreeSet<String> face = new TreeSet<>();
        for (Method method : HatsOfTheWind.class.getDeclaredMethods()) {
            if (Modifier.isPublic(method.getModifiers())) {
                face.add(method.getName());
            }
        }
        TreeSet<String> told = new TreeSet<>();
        for (String line : lines) {
            Matcher word = Pattern.compile("`([a-z]\\w*)`").matcher(line);
            while (line.startsWith("| ") && word.find()) {
                DUE.isTrue("told once: " + word.group(1), told.add(word.group(1)));
            }
        }
        DUE.isTrue("all the face and no more: " + told, told.equals(face));
    }

    private static void tests(List<String> lines) throws IOException {
        DUE.sentence("the table of tests");
        TreeSet<String> there = new TreeSet<>();
        try (Stream<Path> files = Files.list(Path.of("src/test/java"))) {
            files.map(file -> file.getFileName().toString()).filter(name -> name.endsWith("Test.java"))
                .forEach(name -> there.add(name.substring(0, name.length() - ".java".length())));
        }
        TreeSet<String> told = new TreeSet<>();
        for (String line : lines) {
            Matcher row = Pattern.compile("\\| (\\w+Test) \\|.*").matcher(line);
            if (row.matches()) {
                told.add(row.group(1));
            }
        }
        DUE.isTrue("tests: " + told, told.equals(there));
    }
}
