import java.lang.reflect.InvocationTargetException;
import java.lang.reflect.Method;
import java.util.ArrayList;
import java.util.Arrays;
import java.util.HashMap;
import java.util.List;
import java.util.Map;

/**
 * Tests of sentences of the document, each told as a run of calls on a new object, one call a line:
 * <pre>
 *   hour 1400 = 2                  the answer that is due
 *   hour 5001 ! IllegalArgument    the exception that is due; nothing may have changed after it
 *   24 x hour 1000                 a call that is made several times
 *   write h5;c0                    append() of each character
 *   busy, two, ten, late           calls with which many tests begin (see PRELUDES)
 * </pre>
 * Each run is made on the model too, so that the answers that are due were reckoned twice.
 */
final class Sentences {
    private static final int MOST_CALLS = 512;
    private static final int MOST_SAVED = 6;
    private static final Map<String, Method> OF_PROGRAM = methods(LateThermometers.class);
    private static final Map<String, Method> OF_MODEL = methods(Model.class);
    private static final Map<String, String> PRELUDES = Map.of(
        // four thermometers, one of which is shut out; six saved states, the slot 1 empty, a text that is complete
        "busy", """
            thermometer 0 2 10 2
            thermometer 1 5 -20 1
            thermometer 1 9 0 5
            thermometer 3 1 0 3
            period 1 2
            set 0 40
            hours 4 30
            knock 2 -2000
            hours 2 0
            knock 2 3000
            keep 0
            hours 2 -15
            knock 1 700
            hour 1100
            write h7;p2/3
            """,
        "two", """
            thermometer 0 1 0 1
            thermometer 1 9 0 1
            """,
        "ten", "10 x thermometer 0 1 0 1",
        // the last hour
        "late", """
            416 x hours 24 0
            hours 15 0
            """);

    private final String name;
    private int sentences;
    private int wrong;

    Sentences(String name) {
        this.name = name;
    }

    private static Map<String, Method> methods(Class<?> of) {
        Map<String, Method> found = new HashMap<>();
        for (Method method : of.getDeclaredMethods()) {
            found.put(method.getName(), method);
        }
        return found;
    }

    /** A step of a run; due is null if nobody asks for the answer. */
    private static final class Step {
        final String call;
        final int[] arguments;
        final String due;

        Step(String call, int[] arguments, String due) {
            this.call = call;
            this.arguments = arguments;
            this.due = due;
        }

        boolean isRefused() {
            return due != null && due.startsWith("I");
        }

        @Override
        public String toString() {
            return call + Arrays.toString(arguments);
        }
    }

    /** An object that counts its calls: beyond the 512th one nothing is promised, and so nothing is tested. */
    private static final class Run {
        final Object object;
        final Map<String, Method> methods;
        int calls;

        Run(Object object) {
            this.object = object;
            methods = object instanceof Model ? OF_MODEL : OF_PROGRAM;
        }

        String answer(String call, int... arguments) {
            calls++;
            if (calls > MOST_CALLS) {
                throw new IllegalStateException("this test makes more than 512 calls");
            }
            Object[] boxed = Arrays.stream(arguments).boxed().toArray();
            try {
                return told(methods.get(call).invoke(object, boxed));
            } catch (InvocationTargetException e) {
                return e.getCause().getClass().getName().replace("java.lang.", "").replaceAll("Exception$", "");
            } catch (IllegalAccessException e) {
                throw new IllegalStateException(e);
            }
        }

        private static String told(Object answer) {
            return answer.equals(LateThermometers.NONE) ? "NONE" : answer.toString();
        }

        int number(String call, int... arguments) {
            return Integer.parseInt(answer(call, arguments));
        }
    }

    /** One sentence of the document, and the run that would go otherwise if it were broken. */
    void test(String sentence, String... script) {
        sentences++;
        List<Step> steps = parse(String.join("\n", script));
        check(sentence, steps, new Run(new LateThermometers()));
        check(sentence + " (the model)", steps, new Run(new Model()));
        for (int i = 0; i < steps.size(); i++) {
            if (steps.get(i).isRefused()) {
                checkUnchanged(sentence, steps, i);
            }
        }
    }

    /** Each of these calls throws this, on a new object and on a busy one, and changes nothing. */
    void refuses(String sentence, String exception, String... calls) {
        for (String call : calls) {
            test(sentence, call + " ! " + exception);
            test(sentence, "busy", call + " ! " + exception);
        }
    }

    /** As refuses(), for calls that a new object would refuse for another reason. */
    void refusesBusy(String sentence, String exception, String... calls) {
        for (String call : calls) {
            test(sentence, "busy", call + " ! " + exception);
        }
    }

    /** None of these calls changes anything of a busy object. */
    void changeNothing(String sentence, String... calls) {
        for (String call : calls) {
            sentences++;
            checkUnchanged(sentence, parse("busy\n" + call), parse("busy").size());
        }
    }

    private void check(String sentence, List<Step> steps, Run run) {
        for (Step step : steps) {
            String got = run.answer(step.call, step.arguments);
            boolean fine = step.due == null ? !got.startsWith("I") : got.equals(step.due);
            if (!fine) {
                complain(sentence + ": the call " + run.calls + ", " + step + ", answered " + got + ", due is "
                    + (step.due == null ? "no exception" : step.due));
                return;
            }
        }
    }

    /** Looks at twins of which only one was asked the call in question; each look has its own twins. */
    private void checkUnchanged(String sentence, List<Step> steps, int index) {
        for (int look = 0; look < MOST_SAVED + 6; look++) {
            Run asked = runUntil(steps, index);
            asked.answer(steps.get(index).call, steps.get(index).arguments);
            String got = look(asked, look);
            String due = look(runUntil(steps, index), look);
            if (!got.equals(due)) {
                complain(sentence + ": " + steps.get(index) + " changed something; the look " + look + " saw\n  " + got + "\n  due is\n  " + due);
                return;
            }
        }
    }

    /** Without those that are refused: they change nothing. */
    private static Run runUntil(List<Step> steps, int index) {
        Run run = new Run(new LateThermometers());
        for (Step step : steps.subList(0, index)) {
            if (!step.isRefused()) {
                run.answer(step.call, step.arguments);
            }
        }
        return run;
    }

    private static String look(Run run, int look) {
        StringBuilder view = new StringBuilder();
        if (look <= MOST_SAVED) {
            for (int i = 0; i < look; i++) {
                view.append(run.answer("undo")).append(' ');
            }
        } else if (look <= MOST_SAVED + 2) {
            view.append(run.answer("goBack", look - MOST_SAVED - 1)).append(' ');
        } else {
            // the buffer as it is, with a digit more, with an order more
            for (char character : new String[] {"", "5", ";h5"}[look - MOST_SAVED - 3].toCharArray()) {
                run.answer("append", character);
            }
            view.append(run.answer("execute")).append(' ');
        }
        return view.append(state(run)).toString();
    }

    /** All that the queries tell of an object. */
    private static String state(Run run) {
        StringBuilder view = new StringBuilder();
        ask(run, view, "count", 14);
        view.append(run.answer("firstError"));
        for (int row = 0; row < 4; row++) {
            ask(run, view, "row", 4, row);
        }
        int thermometers = run.number("count", 1);
        for (int thermometer = 0; thermometer < thermometers; thermometer++) {
            ask(run, view, "ofThermometer", 10, thermometer);
            int kept = run.number("ofThermometer", thermometer, 7);
            for (int ago = 0; ago < kept; ago++) {
                ask(run, view, "reading", 2, thermometer, ago);
            }
        }
        for (int what = 0; what < 3; what++) {
            view.append(" still ").append(run.answer("ifStill", 48, what));
        }
        return view.toString();
    }

    private static void ask(Run run, StringBuilder view, String call, int whats, int... first) {
        view.append(' ').append(call);
        int[] arguments = Arrays.copyOf(first, first.length + 1);
        for (int what = 0; what < whats; what++) {
            arguments[first.length] = what;
            view.append(' ').append(run.answer(call, arguments));
        }
    }

    private static List<Step> parse(String script) {
        List<Step> steps = new ArrayList<>();
        for (String line : script.split("\n")) {
            if (!line.isBlank()) {
                addSteps(steps, line.strip().split(" +"));
            }
        }
        return steps;
    }

    private static void addSteps(List<Step> steps, String[] words) {
        if (PRELUDES.containsKey(words[0])) {
            steps.addAll(parse(PRELUDES.get(words[0])));
        } else if (words[0].equals("write")) {
            for (int character : words[1].toCharArray()) {
                steps.add(new Step("append", new int[] {character}, null));
            }
        } else if (words.length > 1 && words[1].equals("x")) {
            for (int i = 0; i < Integer.parseInt(words[0]); i++) {
                addSteps(steps, Arrays.copyOfRange(words, 2, words.length));
            }
        } else {
            int answer = Math.max(Arrays.asList(words).indexOf("="), Arrays.asList(words).indexOf("!"));
            int end = answer < 0 ? words.length : answer;
            int[] arguments = Arrays.stream(words, 1, end).mapToInt(Sentences::number).toArray();
            steps.add(new Step(words[0], arguments, answer < 0 ? null : words[answer + 1]));
        }
    }

    private static int number(String word) {
        switch (word) {
            case "MIN": return Integer.MIN_VALUE;
            case "MAX": return Integer.MAX_VALUE;
            case "NONE": return LateThermometers.NONE;
            default: return Integer.parseInt(word);
        }
    }

    private void complain(String text) {
        wrong++;
        if (wrong <= 20) {
            System.out.println(text);
        }
    }

    void finish() {
        System.out.println(name + ": " + sentences + " tests, " + wrong + " not as due");
        if (wrong != 0) {
            System.exit(1);
        }
    }
}
