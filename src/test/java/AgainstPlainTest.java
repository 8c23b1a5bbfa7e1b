import java.lang.reflect.Method;
import java.util.ArrayList;
import java.util.Comparator;
import java.util.List;
import java.util.Random;

/** Long runs of calls by lot (always the same ones), each asked of the program and of Plain. */
public final class AgainstPlainTest {
    private static final Check CHECK = new Check();
    private static final int[] FAR_OFF = {Integer.MIN_VALUE, Integer.MAX_VALUE, -1, 64, 99, 100, 160, 256, 9999, 10000};
    private static final String[] SIGNS = {"(", ")", ";", "+", "-", "*", "<", "=", " ", "\n", "not ", " or ", " and ",
        "gaps ", "likes ", "walks ", "12345", "!", "place", "x", "7"};

    private final Random lots;
    private final FerryForAlone x = new FerryForAlone();
    private final Plain plain = new Plain();
    private final List<Method> methods = new ArrayList<>();

    private AgainstPlainTest(int seed) {
        lots = new Random(seed);
        for (Method method : FerryForAlone.class.getDeclaredMethods()) {
            if (java.lang.reflect.Modifier.isPublic(method.getModifiers())) {
                methods.add(method);
            }
        }
        methods.sort(Comparator.comparing(Method::getName));
    }

    public static void main(String[] args) throws ReflectiveOperationException {
        int runs = args.length > 0 ? Integer.parseInt(args[0]) : 150;
        for (int seed = 0; seed < runs; seed++) {
            CHECK.about("run " + seed);
            new AgainstPlainTest(seed).calls(512);
        }
        CHECK.end();
    }

    private void calls(int most) throws ReflectiveOperationException {
        int calls = 0;
        int people = lots.nextInt(7);
        for (int p = 0; p < people; p++) {
            both("traveller", lots.nextInt(60), lots.nextInt(64));
            calls++;
        }
        while (calls < most - 40) {
            int lot = lots.nextInt(100);
            if (lot < 3) {
                calls += feed(lots.nextInt(4) == 0 ? spoilt(text()) : text());
                both("text");
                both("force", lots.nextInt(7) - 1);
                calls += 2;
            } else if (lot < 12) {
                both("film", lots.nextInt(4), lots.nextInt(12));
                calls++;
            } else if (lot < 22) {
                both("put", lots.nextInt(6), lots.nextInt(3), lots.nextInt(64) - 1);
                calls++;
            } else {
                Method method = methods.get(lots.nextInt(methods.size()));
                both(method.getName(), numbers(method.getName(), method.getParameterCount()));
                calls++;
            }
        }
    }

    private int feed(String text) throws ReflectiveOperationException {
        int fed = 0;
        for (int i = 0; i < text.length(); i += 5) {
            int n = Math.min(5, text.length() - i);
            int[] all = {n, 0, 0, 0, 0, 0};
            for (int k = 0; k < n; k++) {
                all[k + 1] = text.charAt(i + k);
            }
            both("feed", all);
            fed++;
        }
        return fed;
    }

    private int[] numbers(String name, int n) {
        int[] all = new int[n];
        for (int i = 0; i < n; i++) {
            int lot = lots.nextInt(40);
            int range = lot < 18 ? 3 : lot < 30 ? 7 : lot < 36 ? 30 : 70;
            all[i] = lot == 39 ? FAR_OFF[lots.nextInt(FAR_OFF.length)] : lots.nextInt(range) - (lot == 38 ? 2 : 0);
        }
        if (n > 0 && lots.nextInt(8) != 0) {
            shape(name, all);
        }
        return all;
    }

    /** Numbers that a call rather takes than refuses. */
    private void shape(String name, int[] all) {
        switch (name) {
            case "bay": all[1] = lots.nextInt(all[0] == 0 ? 10000 : 8); break;
            case "run": all[0] = lots.nextInt(61);
                all[1] = lots.nextInt(4) == 0 ? lots.nextInt(3) : 10 + 10 * lots.nextInt(2) + lots.nextInt(6); break;
            case "hide": all[0] = lots.nextInt(61); all[1] = lots.nextInt(2); break;
            case "told": all[1] = lots.nextInt(10); break;
            case "stand": case "apart": all[1] = lots.nextInt(2); break;
            case "drawn": all[0] = lots.nextInt(100000); break;
            case "odds": all[0] = lots.nextInt(100000); all[1] = 1 + lots.nextInt(40); all[2] = lots.nextInt(5);
                all[3] = lots.nextInt(2); break;
            case "sheet": all[0] = lots.nextInt(4); all[1] = lots.nextInt(4) - 1; all[2] = lots.nextInt(30); break;
            case "cell": all[0] = lots.nextInt(4); all[2] = lots.nextInt(300) - 100; break;
            case "copy": all[0] = lots.nextInt(4); all[2] = lots.nextInt(4); break;
            case "kinds": case "waits": all[2] = lots.nextInt(2); break;
            case "taken": all[0] = lots.nextInt(12); all[1] = lots.nextInt(7); break;
            default: break;
        }
    }

    private String text() {
        String text;
        do {
            text = "gaps " + e(3) + ";likes " + e(3) + ";\nwalks " + (lots.nextInt(3) == 0 ? "0" : e(3)) + " ;";
        } while (text.length() > 160);
        return text;
    }

    private String spoilt(String text) {
        int at = lots.nextInt(text.length());
        switch (lots.nextInt(3)) {
            case 0: return text.substring(0, at);
            case 1: return text.substring(0, at) + text.substring(at + 1);
            default:
                String more = text.substring(0, at) + SIGNS[lots.nextInt(SIGNS.length)] + text.substring(at);
                return more.substring(0, Math.min(160, more.length()));
        }
    }

    private String e(int depth) {
        if (depth == 0 || lots.nextInt(4) == 0) {
            return lots.nextBoolean() ? "" + lots.nextInt(12) : Plain.Parser.NAMES.keySet()
                    .toArray(new String[0])[lots.nextInt(6)];
        }
        String a = e(depth - 1);
        String b = e(depth - 1);
        switch (lots.nextInt(10)) {
            case 0: return "(" + a + ")";
            case 1: return "(" + a + ")*" + b;
            case 2: return a + "-" + b;
            case 3: return a + "+" + b;
            case 4: return "-" + a;
            case 5: return "(" + a + "<" + b + ")";
            case 6: return a + " or " + b;
            case 7: return a + " and " + b;
            case 8: return "not " + a;
            default: return "(" + a + "=" + b + ")*9";
        }
    }

    private void both(String name, int... numbers) throws ReflectiveOperationException {
        Class<?>[] types = new Class<?>[numbers.length];
        Object[] values = new Object[numbers.length];
        StringBuilder call = new StringBuilder(name + "(");
        for (int i = 0; i < numbers.length; i++) {
            types[i] = int.class;
            values[i] = numbers[i];
            call.append(i == 0 ? "" : ", ").append(numbers[i]);
        }
        Number got = (Number) FerryForAlone.class.getMethod(name, types).invoke(x, values);
        Number want = (Number) Plain.class.getMethod(name, types).invoke(plain, values);
        CHECK.due(call + ")", got.longValue(), want.longValue());
    }
}
