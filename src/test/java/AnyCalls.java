import java.lang.reflect.InvocationTargetException;
import java.lang.reflect.Method;
import java.nio.file.Files;
import java.nio.file.Path;
import java.util.ArrayList;
import java.util.Arrays;
import java.util.Collections;
import java.util.Comparator;
import java.util.List;
import java.util.regex.Matcher;
import java.util.regex.Pattern;

/**
 * The face as ../shared/DOC.md tells it, and any calls with any numbers, 512 of each object: a call throws what the face tells
 * of it or nothing, and one that throws has changed nothing but the TAPE and fault().
 */
public final class AnyCalls {
    private static final int[] NUMBERS = {Integer.MIN_VALUE, Integer.MIN_VALUE + 1, -1103515245, -71, -2, -1, 0, 0, 0, 1, 1, 1, 2, 2, 2, 3, 3, 4, 5, 6, 7,
        8, 9, 10, 12, 13, 20, 31, 32, 33, 64, 69, 70, 71, 99, 100, 255, 256, 399, 400, 401, 999, 1000, 9999, 0x01000000, 0x01020304,
        Integer.MAX_VALUE - 1, Integer.MAX_VALUE};
    private static final String[] TEXTS = {"house weight 9 firm 8;house weight 30 firm 40 ivy 3 age 9;lean 0 1 part 4",
        "house weight 90 firm 99;person at 0 hold 9 on 1010101;person at 0 hold 90", "wander 70;prop 40;evening 6;week 999",
        "house weight 1 firm 0;house weight 5 firm 3;lean 0 1 part 9;lean 1 0 part 9;person at 1 hold 8", "week 1000", ";", "",
        "firm 9 if held;soft 3 if leant and not leaning;grow 1 if press + age > 3", "grow 99;soft 99;firm 99 if evening < 3", "grow 1 if"};
    private static long state = 512;

    private static int random(int n) {
        state = state * 6364136223846793005L + 1442695040888963407L;
        return (int) ((state >>> 33) % n);
    }

    public static void main(String[] args) throws Exception {
        face();
        List<Method> methods = new ArrayList<>();
        for (Method m : LeanCity.class.getDeclaredMethods()) {
            if (java.lang.reflect.Modifier.isPublic(m.getModifiers())) {
                methods.add(m);
            }
        }
        methods.sort(Comparator.comparing(Method::getName));
        Check.is("methods", methods.size(), 54);
        for (int run = 0; run < 300; run++) {
            calls(methods);
        }
        Check.done();
    }

    private static void face() throws Exception {
        String doc = Files.readString(Path.of("../shared/DOC.md"));
        String block = doc.substring(doc.indexOf("public final class LeanCity"), doc.indexOf("## Terms"));
        List<String> due = new ArrayList<>();
        Matcher m = Pattern.compile("public (int|boolean|void) (\\w+)\\(([^)]*)\\)( throws ([\\w, ]+))?;").matcher(block);
        while (m.find()) {
            String kinds = m.group(3).replaceAll("(int|boolean) \\w+", "$1");
            due.add(m.group(1) + " " + m.group(2) + "(" + kinds + ") " + (m.group(5) == null ? "" : m.group(5)));
        }
        List<String> got = new ArrayList<>();
        for (Method method : LeanCity.class.getDeclaredMethods()) {
            if (java.lang.reflect.Modifier.isPublic(method.getModifiers())) {
                got.add(method.getReturnType() + " " + method.getName() + "(" + names(method.getParameterTypes()) + ") "
                        + names(method.getExceptionTypes()));
            }
        }
        Collections.sort(due);
        Collections.sort(got);
        Check.is("the face", String.join("\n", got), String.join("\n", due));
        Check.is("NONE", LeanCity.NONE, -1);
        Check.is("one public constructor", LeanCity.class.getConstructors().length, 1);
    }

    private static String names(Class<?>[] kinds) {
        List<String> names = new ArrayList<>();
        for (Class<?> kind : kinds) {
            names.add(kind.getSimpleName());
        }
        return String.join(", ", names);
    }

    private static final class Step {
        final Method method;
        final Object[] arguments;
        final String text;

        Step(Method method, Object[] arguments, String text) {
            this.method = method;
            this.arguments = arguments;
            this.text = text;
        }

        int calls() {
            return text == null ? 1 : 2 + (text.length() + 19) / 20;
        }

        /** Whether it threw. */
        boolean on(LeanCity x) throws Exception {
            if (text != null) {
                Check.tape(x, text);
                return false;
            }
            try {
                method.invoke(x, arguments);
                return false;
            } catch (InvocationTargetException e) {
                boolean may = Arrays.asList(method.getExceptionTypes()).contains(e.getCause().getClass());
                Check.is(method.getName() + Arrays.toString(arguments) + " threw " + e.getCause(), may, true);
                return true;
            }
        }
    }

    private static Step step(List<Method> methods) {
        if (random(12) == 0) {
            return new Step(null, null, TEXTS[random(TEXTS.length)]);
        }
        Method method = methods.get(random(methods.size()));
        Object[] arguments = new Object[method.getParameterCount()];
        for (int i = 0; i < arguments.length; i++) {
            boolean number = method.getParameterTypes()[i] == int.class;
            arguments[i] = number ? (Object) NUMBERS[random(NUMBERS.length)] : (Object) (random(2) == 0);
        }
        return new Step(method, arguments, null);
    }

    private static void calls(List<Method> methods) throws Exception {
        LeanCity x = new LeanCity();
        List<Step> steps = new ArrayList<>();
        int calls = 0;
        for (Step step = step(methods); calls + step.calls() <= 512; step = step(methods)) {
            boolean threw = step.on(x);
            calls += step.calls();
            // What is looked at takes calls, too: both are new objects, brought as far as this one.
            if (threw && calls < 200 && random(8) == 0) {
                String ahead = told(steps);
                steps.add(step);
                Check.is("all behind " + step.method.getName(), told(steps), ahead);
            } else {
                steps.add(step);
            }
        }
    }

    /** Without the TAPE and fault(). */
    private static String told(List<Step> steps) throws Exception {
        LeanCity x = new LeanCity();
        for (Step step : steps) {
            step.on(x);
        }
        String all = State.of(x);
        return all.substring(all.indexOf("count"));
    }
}
