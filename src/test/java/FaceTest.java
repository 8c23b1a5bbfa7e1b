import java.io.IOException;
import java.lang.reflect.Constructor;
import java.lang.reflect.Field;
import java.lang.reflect.Method;
import java.lang.reflect.Modifier;
import java.nio.charset.StandardCharsets;
import java.nio.file.Files;
import java.nio.file.Path;
import java.util.Set;
import java.util.TreeSet;
import java.util.regex.Matcher;
import java.util.regex.Pattern;

/** The public face of the document, and the rules of LANGUAGE.md that the class and its source show. */
public final class FaceTest {
    private static final Check CHECK = new Check();
    private static final String[] FACE = {
        "int count(int)", "int bay(int,int)", "int ferry(int)", "int feed(int,int,int,int,int,int)", "int text()",
        "int force(int)", "int asks(int,int)", "int traveller(int,int)", "int put(int,int,int)", "int told(int,int)",
        "int hour()", "int walk(int,int)", "int run(int,int)", "int when(int,int)", "int hide(int,int)",
        "int stand(int,int)", "int apart(int,int)", "int breakwater(int)", "int gap(int)", "long middle(int)",
        "int judge(int)", "int kinds(int,int,int)", "long places(int,int)", "int turned(int)", "int waits(int,int,int)",
        "int laws(int)", "int film(int,int)", "int drawn(int,int)", "long odds(int,int,int,int)", "int image()",
        "int back()", "int sheet(int,int,int)", "int cell(int,int,int)", "int copy(int,int,int,int,int)",
        "int peopleBy(int,int,int,int)", "int taken(int,int)"
    };

    public static void main(String[] args) throws IOException {
        constants();
        methods();
        fields();
        nestedClasses();
        String source = Files.readString(Path.of("src/main/java/FerryForAlone.java"), StandardCharsets.UTF_8);
        source(source);
        CHECK.end();
    }

    private static void so(String what, boolean so) {
        CHECK.due(what, so ? 1 : 0, 1);
    }

    private static void constants() {
        CHECK.about("constants");
        CHECK.due("NONE", FerryForAlone.NONE, -1);
        CHECK.due("BAD", FerryForAlone.BAD, -2);
        CHECK.due("STATE", FerryForAlone.STATE, -3);
        CHECK.due("FULL", FerryForAlone.FULL, -4);
        CHECK.due("NO", FerryForAlone.NO, -4611686018427387904L);
    }

    private static void methods() {
        CHECK.about("rule 1");
        Set<String> wanted = new TreeSet<>(Set.of(FACE));
        Set<String> names = new TreeSet<>();
        Set<String> found = new TreeSet<>();
        for (String method : FACE) {
            names.add(method.substring(method.indexOf(' ') + 1, method.indexOf('(')));
        }
        for (Method method : FerryForAlone.class.getDeclaredMethods()) {
            if (Modifier.isPrivate(method.getModifiers())) {
                so(method.getName() + " is the name of no public method", !names.contains(method.getName()));
            } else {
                so(method + " is public and not static", method.getModifiers() == Modifier.PUBLIC);
                found.add(told(method));
            }
        }
        so("the methods are those of the document: " + found, found.equals(wanted));
        Constructor<?>[] constructors = FerryForAlone.class.getDeclaredConstructors();
        so("one constructor", constructors.length == 1 && constructors[0].getParameterCount() == 0
                && constructors[0].getModifiers() == Modifier.PUBLIC);
        so("public and final", FerryForAlone.class.getModifiers() == (Modifier.PUBLIC | Modifier.FINAL));
    }

    private static String told(Method method) {
        StringBuilder text = new StringBuilder(method.getReturnType() + " " + method.getName() + "(");
        for (int i = 0; i < method.getParameterCount(); i++) {
            text.append(i == 0 ? "" : ",").append(method.getParameterTypes()[i]);
        }
        return text.append(")").toString();
    }

    private static void fields() {
        CHECK.about("rules 1, 5 and 11");
        Set<String> seen = new TreeSet<>();
        int kept = 0;
        for (Field field : FerryForAlone.class.getDeclaredFields()) {
            if (Modifier.isStatic(field.getModifiers())) {
                so(field + " is final", Modifier.isFinal(field.getModifiers()));
            } else {
                kept++;
            }
            if (!Modifier.isPrivate(field.getModifiers())) {
                seen.add(field.toString());
            }
        }
        so("some twenty fields at most", kept <= 20);
        so("five are to be seen: " + seen, seen.size() == 5);
    }

    private static void nestedClasses() {
        CHECK.about("rules 2 and 11");
        Class<?>[] nested = FerryForAlone.class.getDeclaredClasses();
        so("some twelve classes at most", nested.length <= 11);
        for (Class<?> one : nested) {
            so(one + " is static", Modifier.isStatic(one.getModifiers()));
            so(one + " is not public", !Modifier.isPublic(one.getModifiers()));
            so(one + " has nothing inside", one.getDeclaredClasses().length == 0);
            so(one + " has some twenty fields at most", one.getDeclaredFields().length <= 20);
        }
    }

    private static void source(String source) {
        CHECK.about("the source");
        so("signs 1 to 127 alone", source.chars().allMatch(c -> c == '\n' || c >= 32 && c < 127));
        String code = source.replaceAll("(?s)/\\*.*?\\*/", "").replaceAll("//[^\n]*", "");
        String[] words = {
            "throw", "throws", "try", "catch", "finally", "synchronized", "assert", "import", "package", "->", "::",
            "equals", "hashCode", "toString", "System.out", "System.nanoTime", "System.currentTimeMillis", "Random",
            "Thread", "Exact", "this::", "var"
        };
        for (String word : words) {
            Pattern pattern = Pattern.compile(Character.isLetter(word.charAt(0))
                    ? "\\b" + Pattern.quote(word) + "\\b" : Pattern.quote(word));
            so("no " + word, !pattern.matcher(code).find());
        }
        CHECK.about("rule 12: what is made is made in fields, once");
        Matcher made = Pattern.compile("\n([^\n]*)\\bnew \\w").matcher(code);
        while (made.find()) {
            so(made.group(), made.group(1).matches("\\s*(private )?final [\\w\\[\\]]+ \\w+ = "));
        }
        CHECK.about("rule 11: methods of some sixty lines");
        Matcher method = Pattern.compile("(?s)\n( {4,8})(?=\\S)[^\n;=]*\\([^\n;=]*\\) \\{\n.*?\n\\1\\}").matcher(code);
        int methods = 0;
        while (method.find()) {
            methods++;
            so(method.group().trim().split("\n")[0], method.group().trim().split("\n").length <= 60);
        }
        so("methods were found", methods > 60);
    }
}
