import java.io.IOException;
import java.lang.reflect.Field;
import java.lang.reflect.Modifier;
import java.nio.file.Files;
import java.nio.file.Path;
import java.util.List;
import java.util.Set;
import java.util.regex.Matcher;
import java.util.regex.Pattern;

/** The rules of LANGUAGE.md that a look at the source can tell. */
public final class LanguageTest {
    private static final Due DUE = new Due("LanguageTest");
    private static final Path SOURCE = Path.of("src/main/java/HatsOfTheWind.java");
    private static final Set<String> LIBRARY = Set.of(
        "System.arraycopy", "Math.abs", "Math.max", "Math.min", "Integer.bitCount", "Integer.numberOfTrailingZeros");
    private static final int LONGEST_METHOD = 60;
    private static final int MOST_CLASSES = 12;
    private static final int MOST_FIELDS = 20;

    public static void main(String[] args) throws IOException {
        String source = Files.readString(SOURCE);
        List<String> lines = source.lines().toList();
        words(source);
        library(source);
        objectsAreMadeOnce(lines);
        methodsAreShort(lines);
        classesAreFew();
        DUE.end();
    }

    private static void words(String source) {
        DUE.sentence("rules 2 to 6, 10, 13: what the class does without");
        String[] ruledOut = {
            "->", "::", "package ", "import ", "finally", "synchronized", "assert ", "Exact(", "System.out",
            "System.nano", "System.current", "Random", "Thread", "catch (Exception", "catch (RuntimeException",
            "catch (Throwable", "ArrayIndexOutOfBounds", "NullPointer", "ArithmeticException", "ClassCast",
            "NegativeArraySize", "ArrayStore", "getMessage", "hashCode", "toString"
        };
        for (String word : ruledOut) {
            DUE.isTrue("without " + word, !source.contains(word));
        }
        for (int i = 0; i < source.length(); i++) {
            if (source.charAt(i) > 126) {
                DUE.isTrue("plain signs alone, not at " + i, false);
            }
        }
    }

    private static void library(String source) {
        DUE.sentence("rule 4: the library: only what stands here");
        Matcher used = Pattern.compile(
            "\\b(Integer|Long|Short|Byte|Character|Math|System|Arrays|String|List)\\.\\w+").matcher(source);
        while (used.find()) {
            DUE.isTrue(used.group(), LIBRARY.contains(used.group()));
        }
    }

    private static void objectsAreMadeOnce(List<String> lines) {
        DUE.sentence("rule 12: none in a loop without a bound; what a run makes is counted");
        Pattern field = Pattern.compile("(private )?final \\w+(\\[\\])? \\w+ = new .*");
        for (String line : lines) {
            String words = line.strip();
            if (words.contains("new ") && !words.startsWith("throw new ") && !words.startsWith("/")) {
                boolean inConstructor = words.equals("shelves[d] = new Shelf();");
                DUE.isTrue("made with its object: " + words, inConstructor || field.matcher(words).matches());
            }
        }
    }

    private static void methodsAreShort(List<String> lines) {
        DUE.sentence("rule 11: methods stay short");
        // A method's own brackets stand 4 signs in, or 8 in a class inside; 8 in the class itself are no heads.
        Pattern head = Pattern.compile("( {4}| {8})(public |private |static |\\w+ ).*\\) *(throws .*)?\\{");
        Pattern noMethod = Pattern.compile(" *(if|for|while|switch|try|\\} ).*");
        for (int i = 0; i < lines.size(); i++) {
            String line = lines.get(i);
            if (head.matcher(line).matches() && !noMethod.matcher(line).matches()) {
                String end = line.substring(0, line.length() - line.stripLeading().length()) + "}";
                int length = 1;
                while (i + length < lines.size() && !lines.get(i + length).equals(end)) {
                    length++;
                }
                DUE.isTrue("short: " + line.strip(), length < LONGEST_METHOD);
            }
        }
    }

    private static void classesAreFew() {
        DUE.sentence("rule 11: some twelve classes, and a class some twenty fields beside its constants");
        Class<?>[] inside = HatsOfTheWind.class.getDeclaredClasses();
        DUE.isTrue("classes", inside.length < MOST_CLASSES);
        fieldsAreFew(HatsOfTheWind.class);
        for (Class<?> one : inside) {
            fieldsAreFew(one);
        }
    }

    private static void fieldsAreFew(Class<?> one) {
        int own = 0;
        for (Field field : one.getDeclaredFields()) {
            if (Modifier.isStatic(field.getModifiers())) {
                DUE.isTrue("rule 5: final: " + field, Modifier.isFinal(field.getModifiers()));
            } else {
                own++;
            }
        }
        DUE.isTrue("fields of " + one.getName(), own <= MOST_FIELDS);
    }
}
