import java.lang.reflect.InvocationTargetException;
import java.lang.reflect.Method;
import java.util.ArrayDeque;
import java.util.ArrayList;
import java.util.Arrays;
import java.util.Deque;
import java.util.LinkedHashMap;
import java.util.List;
import java.util.Map;
import java.util.Random;

/** Runs of 512 calls with arguments in, at and beyond their ranges; the model answers each of them too. */
public final class AgainstModelTest {
    private static final int RUNS = 400;
    private static final int KINDS = 6;
    private static final int TO_THE_LAST_HOUR = 1;
    /** Each of the 25 methods answers, and throws each exception of its clause. */
    private static final int OUTCOMES = 60;
    private static final int CALLS = 512;
    private static final int[] FAR = {Integer.MIN_VALUE, Integer.MIN_VALUE + 1, -999999, -100000, 100000, 999999, Integer.MAX_VALUE - 1, Integer.MAX_VALUE};
    private static final String[] CHANGING = {"thermometer", "hour", "hours", "period", "calibrate", "knock", "set",
        "append", "clearBuffer", "execute", "undo", "keep", "goBack"};
    private static final String[] ASKING = {"firstError", "ofThermometer", "reading", "row", "count", "ranked", "between",
        "ifLag", "bestLag", "ifStill", "stillIn", "meanError"};
    /** The least and the greatest value of each argument. */
    private static final Map<String, int[]> RANGES = new LinkedHashMap<>();

    static {
        RANGES.put("thermometer", new int[] {0, 3, 1, 9, -200, 200, 1, 5});
        RANGES.put("hour", new int[] {-5000, 5000});
        RANGES.put("hours", new int[] {1, 24, -500, 500});
        RANGES.put("period", new int[] {0, 3, 1, 6});
        RANGES.put("calibrate", new int[] {0, 9});
        RANGES.put("knock", new int[] {0, 9, -3000, 3000});
        RANGES.put("set", new int[] {0, 1, 1, 2000});
        RANGES.put("append", new int[] {33, 126});
        RANGES.put("clearBuffer", new int[] {});
        RANGES.put("execute", new int[] {});
        RANGES.put("undo", new int[] {});
        RANGES.put("keep", new int[] {0, 1});
        RANGES.put("goBack", new int[] {0, 1});
        RANGES.put("firstError", new int[] {});
        RANGES.put("ofThermometer", new int[] {0, 9, 0, 9});
        RANGES.put("reading", new int[] {0, 9, 0, 6, 0, 1});
        RANGES.put("row", new int[] {0, 3, 0, 3});
        RANGES.put("count", new int[] {0, 13});
        RANGES.put("ranked", new int[] {0, 1, 0, 10});
        RANGES.put("between", new int[] {-6000, 6000, -6000, 6000});
        RANGES.put("ifLag", new int[] {0, 9, 1, 9});
        RANGES.put("bestLag", new int[] {0, 9});
        RANGES.put("ifStill", new int[] {1, 48, 0, 3});
        RANGES.put("stillIn", new int[] {0, 9});
        RANGES.put("meanError", new int[] {});
    }

    private static final Map<String, Method> OF_PROGRAM = methods(LateThermometers.class);
    private static final Map<String, Method> OF_MODEL = methods(Model.class);
    private static final List<Call> LOOK = look();

    private static final class Call {
        final String name;
        final Object[] arguments;

        Call(String name, Object... arguments) {
            this.name = name;
            this.arguments = arguments;
        }

        Object on(LateThermometers x) {
            return answer(OF_PROGRAM.get(name), x, arguments);
        }

        Object on(Model x) {
            return answer(OF_MODEL.get(name), x, arguments);
        }

        @Override
        public String toString() {
            return name + Arrays.toString(arguments);
        }
    }

    private final Random random;
    private final int run;
    private final LateThermometers program = new LateThermometers();
    private final Model model = new Model();
    private final List<String> story = new ArrayList<>();
    private final List<Call> calls = new ArrayList<>();
    private final int[] weights;
    /** The calls for an order text: its characters, and what is asked of it. */
    private final Deque<Integer> characters = new ArrayDeque<>();
    private final Deque<String> ofText = new ArrayDeque<>();
    private int temperature = 1000;

    private AgainstModelTest(int run) {
        this.run = run;
        random = new Random(run);
        weights = weightsOf(run % KINDS);
    }

    /** How often each changing method is called in a kind of runs; the other calls ask. */
    private static int[] weightsOf(int kind) {
        switch (kind) {
            case 0: return new int[] {20, 60, 10, 5, 10, 30, 5, 8, 1, 1, 15, 2, 3, 100};
            case TO_THE_LAST_HOUR: return new int[] {5, 1, 600, 2, 2, 5, 1, 0, 0, 0, 0, 1, 0, 5};
            case 2: return new int[] {4, 10, 1, 2, 4, 10, 1, 60, 3, 2, 5, 2, 3, 30};
            case 3: return new int[] {10, 30, 10, 10, 10, 20, 10, 5, 2, 3, 60, 20, 30, 60};
            case 4: return new int[] {4, 60, 2, 5, 6, 100, 8, 1, 1, 1, 3, 1, 2, 60};
            default: return new int[] {3, 60, 5, 3, 4, 15, 3, 1, 1, 1, 3, 1, 2, 220};
        }
    }

    private static Map<String, Method> methods(Class<?> of) {
        Map<String, Method> found = new LinkedHashMap<>();
        for (Method method : of.getDeclaredMethods()) {
            if (RANGES.containsKey(method.getName())) {
                method.setAccessible(true);
                found.put(method.getName(), method);
            }
        }
        return found;
    }

    public static void main(String[] args) {
        Map<String, Integer> kinds = new LinkedHashMap<>();
        for (int run = 0; run < RUNS; run++) {
            if (!new AgainstModelTest(run).agrees(kinds)) {
                System.exit(1);
            }
        }
        if (kinds.size() < OUTCOMES) {
            System.out.println("AgainstModelTest: only " + kinds.size() + " kinds of outcomes were met: " + kinds.keySet());
            System.exit(1);
        }
        System.out.println("AgainstModelTest: " + RUNS + " runs agree, " + kinds.size() + " kinds of outcomes were met");
    }

    private boolean agrees(Map<String, Integer> kinds) {
        while (calls.size() < CALLS) {
            String name = pick();
            Call call = new Call(name, arguments(name));
            Object got = call.on(program);
            Object due = call.on(model);
            calls.add(call);
            story.add(call + " -> " + got);
            kinds.merge(name + (due instanceof String ? " " + due : ""), 1, Integer::sum);
            if (!got.equals(due)) {
                return complain(name, got, due);
            }
            boolean look = random.nextInt(due instanceof String ? 20 : 40) == 0;
            if (look && !twinLooksAlike()) {
                return false;
            }
        }
        return true;
    }

    private boolean complain(String what, Object got, Object due) {
        System.out.println("run " + run + ", call " + story.size() + ": " + what + " answered " + got + ", due is " + due);
        System.out.println("  " + String.join("\n  ", story.subList(Math.max(0, story.size() - 40), story.size())));
        return false;
    }

    private static Object answer(Method method, Object of, Object[] arguments) {
        try {
            return method.invoke(of, arguments);
        } catch (InvocationTargetException e) {
            return e.getCause().getClass().getName();
        } catch (IllegalAccessException e) {
            throw new IllegalStateException(e);
        }
    }

    /** A twin that made the same calls is asked until it has had 512 of them; the program itself keeps its calls for the run. */
    private boolean twinLooksAlike() {
        LateThermometers twin = new LateThermometers();
        for (Call call : calls) {
            call.on(twin);
        }
        int first = random.nextInt(LOOK.size());
        for (int i = 0; i < Math.min(LOOK.size(), CALLS - calls.size()); i++) {
            Call query = LOOK.get((first + i) % LOOK.size());
            Object got = query.on(twin);
            Object due = query.on(model);
            if (!got.equals(due)) {
                return complain("the look " + query, got, due);
            }
        }
        return true;
    }

    /** The queries with all arguments in their ranges and one beyond. */
    private static List<Call> look() {
        List<Call> queries = new ArrayList<>();
        for (String name : ASKING) {
            if (name.equals("between") || name.equals("ifStill")) {
                continue;
            }
            int[] range = RANGES.get(name);
            Object[] arguments = new Object[range.length / 2];
            for (int i = 0; i < arguments.length; i++) {
                arguments[i] = range[2 * i] - 1;
            }
            do {
                queries.add(new Call(name, arguments.clone()));
            } while (increase(arguments, range));
        }
        return queries;
    }

    private static boolean increase(Object[] arguments, int[] range) {
        for (int i = 0; i < arguments.length; i++) {
            int next = (Integer) arguments[i] + 1;
            if (next <= range[2 * i + 1] + 1) {
                arguments[i] = next;
                return true;
            }
            arguments[i] = range[2 * i] - 1;
        }
        return false;
    }

    private String pick() {
        if (!ofText.isEmpty()) {
            return ofText.removeFirst();
        }
        boolean atTheEnd = run % KINDS == TO_THE_LAST_HOUR && model.count(0) > 9960;
        String name = atTheEnd ? "hours hour hours append thermometer undo goBack".split(" ")[random.nextInt(7)] : pickByWeight();
        if (name.equals("append") && random.nextInt(8) != 0) {
            planText();
            return ofText.removeFirst();
        }
        return name;
    }

    private String pickByWeight() {
        int sum = Arrays.stream(weights).sum();
        int at = random.nextInt(sum);
        for (int i = 0; i < CHANGING.length; i++) {
            at -= weights[i];
            if (at < 0) {
                return CHANGING[i];
            }
        }
        return ASKING[random.nextInt(ASKING.length)];
    }

    private Object[] arguments(String name) {
        int[] range = RANGES.get(name);
        Object[] arguments = new Object[range.length / 2];
        for (int i = 0; i < arguments.length; i++) {
            arguments[i] = number(range[2 * i], range[2 * i + 1]);
        }
        boolean planned = name.equals("append") && !characters.isEmpty();
        boolean fine = planned || random.nextInt(20) != 0;
        if (fine && name.equals("hour")) {
            temperature = Math.max(-5000, Math.min(5000, temperature + random.nextInt(401) - 200));
            arguments[0] = temperature;
        } else if (fine && name.equals("set")) {
            int setting = random.nextInt(2);
            arguments[0] = setting;
            arguments[1] = setting == 0 ? number(10, random.nextBoolean() ? 60 : 2000) : number(1, 5);
        } else if (fine && name.equals("append")) {
            arguments[0] = planned ? characters.removeFirst() : (int) "tphc;,*-0159".charAt(random.nextInt(12));
        } else if (fine && name.equals("hours") && run % KINDS == TO_THE_LAST_HOUR && model.count(0) <= 9960) {
            arguments[0] = 24;
        } else if (fine && name.equals("knock")) {
            arguments[1] = number(random.nextBoolean() ? 1500 : -3000, 3000);
        } else if (fine && name.equals("between")) {
            int middle = model.count(2);
            arguments[0] = middle - random.nextInt(200);
            arguments[1] = middle + random.nextInt(200);
        }
        if (fine && arguments.length > 0 && ofExisting(name) && model.count(1) > 0) {
            arguments[0] = random.nextInt(model.count(1));
        }
        return arguments;
    }

    private static boolean ofExisting(String name) {
        return List.of("calibrate", "knock", "ofThermometer", "reading", "ifLag", "bestLag", "stillIn").contains(name);
    }

    private int number(int least, int most) {
        int kind = random.nextInt(40);
        if (kind == 0) {
            return FAR[random.nextInt(FAR.length)];
        }
        if (kind == 1) {
            return least - 1;
        }
        if (kind == 2) {
            return most + 1;
        }
        if (kind < 6) {
            return least;
        }
        return kind < 9 ? most : least + random.nextInt(most - least + 1);
    }

    /** Plans the calls that write an order text, with a wrong character now and then, and carry it out. */
    private void planText() {
        String text = orderText(1 + random.nextInt(12));
        if (model.count(11) > 0 && random.nextInt(4) != 0) {
            ofText.add("clearBuffer");
        }
        characters.clear();
        for (char character : text.toCharArray()) {
            characters.add((int) character);
            ofText.add("append");
        }
        ofText.add("firstError");
        ofText.add("execute");
    }

    private String orderText(int orders) {
        StringBuilder text = new StringBuilder(order());
        for (int i = 1; i < orders; i++) {
            text.append(';').append(order());
        }
        if (random.nextInt(4) == 0) {
            text.setCharAt(random.nextInt(text.length()), "tphc0123456789;,*/-".charAt(random.nextInt(19)));
        }
        if (random.nextInt(10) == 0) {
            text.deleteCharAt(random.nextInt(text.length()));
        }
        return text.toString();
    }

    private String order() {
        switch (random.nextInt(6)) {
            case 0: return "t" + random.nextInt(4) + "," + (1 + random.nextInt(9));
            case 1: return "t" + random.nextInt(4) + "," + (1 + random.nextInt(9)) + "*" + (1 + random.nextInt(5));
            case 2: return "p" + random.nextInt(4) + "/" + (1 + random.nextInt(6));
            case 3: return "c" + random.nextInt(random.nextBoolean() ? 10 : Math.max(1, model.count(1)));
            default: return (random.nextInt(3) == 0 ? "h-" : "h") + random.nextInt(random.nextInt(8) == 0 ? 60 : 51);
        }
    }
}
