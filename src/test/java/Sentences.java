import java.lang.reflect.InvocationTargetException;
import java.lang.reflect.Method;
import java.util.Arrays;
import java.util.Comparator;
import java.util.function.Supplier;
import java.util.function.ToLongFunction;

/** Runs each test of a class that holds a sentence: none can be forgotten, and each is named by its sentence. */
final class Sentences {
    private static final Check CHECK = new Check();

    private Sentences() {
    }

    static void run(Class<?> tests, int... promises) throws ReflectiveOperationException {
        Method[] methods = tests.getDeclaredMethods();
        Arrays.sort(methods, Comparator.comparing(Method::getName));
        boolean[] named = new boolean[38];
        for (Method method : methods) {
            Holds holds = method.getAnnotation(Holds.class);
            if (holds != null) {
                CHECK.about(holds.value());
                name(holds.value(), named);
                call(method);
            }
        }
        CHECK.about(tests.getName());
        for (int promise : promises) {
            due("tests that name promise " + promise, named[promise] ? 1 : 0, 1);
        }
        CHECK.end();
    }

    private static void name(String sentence, boolean[] named) {
        if (sentence.startsWith("promise ")) {
            named[Integer.parseInt(sentence.substring(8, sentence.indexOf(':')))] = true;
        } else {
            boolean known = sentence.startsWith("the terms: ") || sentence.startsWith("what it is: ");
            due("a sentence of the document", known ? 1 : 0, 1);
        }
    }

    private static void call(Method method) throws ReflectiveOperationException {
        method.setAccessible(true);
        try {
            method.invoke(null);
        } catch (InvocationTargetException thrown) {
            thrown.getCause().printStackTrace(System.out);
            due(method.getName() + " threw", 1, 0);
        }
    }

    static void due(String call, long got, long want) {
        CHECK.due(call, got, want);
    }

    /** Asked for each of such numbers, a call answers the same. */
    static void each(String call, ToLongFunction<Integer> asked, long want, int... numbers) {
        for (int number : numbers) {
            due(call + " of " + number, asked.applyAsLong(number), want);
        }
    }

    /** A call answers so, and behind it the object can't be told from its twin that was not asked. */
    static void changesNothing(Supplier<FerryForAlone> scene, String name, ToLongFunction<FerryForAlone> call,
            long want) {
        FerryForAlone asked = scene.get();
        due(name, call.applyAsLong(asked), want);
        same(name, asked, scene.get());
    }

    static void changesNothing(Supplier<FerryForAlone> scene, String name, ToLongFunction<FerryForAlone> call) {
        FerryForAlone asked = scene.get();
        call.applyAsLong(asked);
        same(name, asked, scene.get());
    }

    private static void same(String name, FerryForAlone asked, FerryForAlone twin) {
        long[] all = Probe.all(asked);
        long[] twins = Probe.all(twin);
        due("what " + name + " has changed, by the number of the answer", Arrays.mismatch(all, twins), -1);
    }
}
