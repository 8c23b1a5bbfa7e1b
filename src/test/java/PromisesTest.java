import java.io.IOException;
import java.lang.reflect.Method;
import java.nio.charset.StandardCharsets;
import java.nio.file.Files;
import java.nio.file.Path;
import java.util.Map;
import java.util.Set;
import java.util.TreeMap;
import java.util.TreeSet;
import java.util.regex.Matcher;
import java.util.regex.Pattern;

/** Each promise of the document has tests by sentence, and the class has the face that the document prints. */
public final class PromisesTest {
    private static final Check CHECK = new Check();
    private static final int PROMISES = 37;
    private static final Class<?>[] BY_SENTENCE = {
        PeopleSentencesTest.class, TextSentencesTest.class, HoursSentencesTest.class, BestSentencesTest.class,
        ToldSentencesTest.class, GullsSentencesTest.class, HostSentencesTest.class
    };

    private PromisesTest() {
    }

    public static void main(String[] args) throws IOException, ReflectiveOperationException {
        String document = Files.readString(Path.of("../shared/DOC.md"), StandardCharsets.UTF_8);
        promises(document);
        constants(document);
        methods(document);
        CHECK.end();
    }

    private static void promises(String document) {
        CHECK.about("promises");
        Map<Integer, Integer> tests = new TreeMap<>();
        for (Class<?> one : BY_SENTENCE) {
            for (Method method : one.getDeclaredMethods()) {
                Holds holds = method.getAnnotation(Holds.class);
                if (holds != null && holds.value().startsWith("promise ")) {
                    String number = holds.value().substring(8, holds.value().indexOf(':'));
                    tests.merge(Integer.parseInt(number), 1, Integer::sum);
                }
            }
        }
        Matcher heading = Pattern.compile("(?m)^## Promise (\\d+): ").matcher(document);
        int told = 0;
        while (heading.find()) {
            told++;
            CHECK.due("promise " + heading.group(1) + " has a test",
                    tests.getOrDefault(Integer.parseInt(heading.group(1)), 0) > 0 ? 1 : 0, 1);
        }
        CHECK.due("promises of the document", told, PROMISES);
        CHECK.due("promises with a test", tests.size(), PROMISES);
    }

    private static void constants(String document) throws ReflectiveOperationException {
        CHECK.about("constants");
        Matcher value = Pattern.compile("\\b([A-Z]+) = (-\\d+)L?[,;]").matcher(document);
        int told = 0;
        while (value.find()) {
            told++;
            long kept = ((Number) FerryForAlone.class.getField(value.group(1)).get(null)).longValue();
            CHECK.due(value.group(1), kept, Long.parseLong(value.group(2)));
        }
        CHECK.due("constants of the document", told, 5);
        CHECK.due("constants of the class", FerryForAlone.class.getFields().length, 5);
    }

    private static void methods(String document) {
        CHECK.about("methods");
        Set<String> told = new TreeSet<>();
        Matcher method = Pattern.compile("(?m)^ {4}public (int|long) (\\w+)\\((.*)\\);$").matcher(document);
        while (method.find()) {
            told.add(method.group(1) + " " + method.group(2) + "(" + method.group(3).replaceAll(" \\w+(, )?", ",").replaceAll(",$", "") + ")");
        }
        CHECK.due("methods of the document", told.size(), PROMISES - 1);
        for (Method kept : FerryForAlone.class.getMethods()) {
            if (kept.getDeclaringClass() == FerryForAlone.class) {
                String plain = kept.toString().replace("public ", "").replace("FerryForAlone.", "");
                CHECK.due(plain + " is of the document", told.remove(plain) ? 1 : 0, 1);
            }
        }
        CHECK.due("methods that the class has not: " + told, told.size(), 0);
    }
}
