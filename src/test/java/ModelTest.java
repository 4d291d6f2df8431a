import java.lang.reflect.InvocationTargetException;
import java.lang.reflect.Method;
import java.util.ArrayList;
import java.util.Arrays;
import java.util.List;
import java.util.TreeMap;

/**
 * Long runs of calls, right and wrong ones, on the class and on the model: each answer or exception
 * is the same, and so is the checksum behind each call. The runs are the same each time.
 */
public final class ModelTest {
    private static final int RUNS = 1200;
    private static final int CALLS = 200;
    /** Each line is a method, its arguments' kinds, as argument() has them, and how often it is. */
    private static final String[] METHODS = {
        "wall xyd 20", "candle tyw 6", "mirror tyb 4", "tally ty 6", "remove zy 2", "light zy 10",
        "come zyp 4", "send gzy 20", "rite g 6", "cell zyC 3", "walled xyd 2", "ghost gG 3",
        "count N 3", "shines zy 5", "way gzy 12", "next g 10", "pass h 12", "foresee hF 6",
        "reaches zym 10", "advise a 5", "mean - 1"
    };

    private final GhostCandles house = new GhostCandles();
    private final Model model = new Model();
    /** Cells in which things were set up: the same ones are chosen again. */
    private final List<Integer> cells = new ArrayList<>();
    private final TreeMap<String, Integer> answers;
    private long seed;
    private int cell;

    private ModelTest(long seed, TreeMap<String, Integer> answers) {
        this.seed = seed;
        this.answers = answers;
    }

    public static void main(String[] args) throws IllegalAccessException {
        TreeMap<String, Integer> answers = new TreeMap<>();
        List<Method[]> methods = new ArrayList<>();
        List<String> kinds = new ArrayList<>();
        for (String line : METHODS) {
            String[] words = line.split(" ");
            Method[] both = {method(GhostCandles.class, words[0]), method(Model.class, words[0])};
            for (int time = 0; time < Integer.parseInt(words[2]); time++) {
                methods.add(both);
                kinds.add(words[1].equals("-") ? "" : words[1]);
            }
        }
        for (int run = 0; run < RUNS; run++) {
            ModelTest test = new ModelTest(run * 7919L + 17, answers);
            if (run % 3 == 0) {
                test.crowd();
            }
            String fault = test.run(methods, kinds);
            if (!fault.isEmpty()) {
                System.out.println(fault + "ModelTest: run " + run + " is not as due");
                System.exit(1);
            }
        }
        System.out.println("ModelTest: " + RUNS + " runs are as due: " + answers);
    }

    /** Things and ghosts in any cells, as many as there can be: some are refused. */
    private void crowd() throws IllegalAccessException {
        for (int number = 0; number < 12; number++) {
            onBoth("candle", "tyw");
            onBoth("mirror", "tyb");
        }
        for (int number = 0; number < 7; number++) {
            onBoth("tally", "ty");
            onBoth("come", "zyp");
            onBoth("send", "gzy");
        }
    }

    private void onBoth(String name, String kinds) throws IllegalAccessException {
        Object[] arguments = arguments(kinds);
        answer(method(GhostCandles.class, name), house, arguments);
        answer(method(Model.class, name), model, arguments);
    }

    /** The calls up to the first wrong one; empty if there is none. */
    private String run(List<Method[]> methods, List<String> kinds) throws IllegalAccessException {
        StringBuilder calls = new StringBuilder();
        for (int call = 0; call < CALLS; call++) {
            int chosen = below(methods.size());
            Object[] arguments = arguments(kinds.get(chosen));
            String name = methods.get(chosen)[0].getName();
            Object got = answer(methods.get(chosen)[0], house, arguments);
            Object want = answer(methods.get(chosen)[1], model, arguments);
            calls.append(name).append(Arrays.toString(arguments)).append(" -> ").append(got).append('\n');
            answers.merge(name + " " + kindOf(got), 1, Integer::sum);
            if (!got.equals(want)) {
                return calls + "due is " + want + "\n";
            }
            if (house.digest() != model.digest()) {
                return calls + "digest() answered " + house.digest() + ", due is " + model.digest() + "\n";
            }
        }
        return "";
    }

    private static Object kindOf(Object answer) {
        if (answer instanceof Integer) {
            return Integer.signum((Integer) answer);
        }
        return answer instanceof Double ? "" : answer;
    }

    private static Method method(Class<?> of, String name) {
        for (Method method : of.getMethods()) {
            if (method.getName().equals(name)) {
                return method;
            }
        }
        throw new IllegalStateException(name);
    }

    private static Object answer(Method method, Object on, Object[] arguments)
            throws IllegalAccessException {
        try {
            return method.invoke(on, arguments);
        } catch (InvocationTargetException e) {
            return e.getCause().getClass().getSimpleName();
        }
    }

    private Object[] arguments(String kinds) {
        Object[] arguments = new Object[kinds.length()];
        for (int place = 0; place < arguments.length; place++) {
            arguments[place] = argument(kinds.charAt(place));
        }
        return arguments;
    }

    private Object argument(char kind) {
        switch (kind) {
            case 'x': return chooseCell(below(63));
            case 't':
                cells.add(below(63));
                return chooseCell(cells.get(cells.size() - 1));
            case 'z':
                boolean anew = cells.isEmpty() || below(3) == 0;
                return chooseCell(anew ? below(63) : cells.get(below(cells.size())));
            case 'y': return perhapsOutside(cell / 9, 0, 6);
            case 'd': return mostly(0, 3);
            case 'w': return below(3) == 0 ? mostly(1, 60) : mostly(1, 9);
            case 'b': return below(2) == 0;
            case 'p': return mostly(1, 3);
            case 'g': return mostly(0, Math.max(model.count(1) - 1, 0));
            case 'C': return mostly(0, 4);
            case 'G': return mostly(0, 7);
            case 'N': return mostly(0, 9);
            case 'h': return below(5) == 0 ? mostly(1, 40) : mostly(1, 3);
            case 'F': return mostly(0, 3);
            case 'm': return below(2) == 0 ? mostly(0, 99) : mostly(0, 12);
            case 'a': return mostly(1, 8);
            default: throw new IllegalStateException();
        }
    }

    /** Returns x; y comes with the next argument. */
    private int chooseCell(int chosen) {
        cell = chosen;
        return perhapsOutside(cell % 9, 0, 8);
    }

    private int mostly(int least, int most) {
        return perhapsOutside(least + below(most - least + 1), least, most);
    }

    private int perhapsOutside(int number, int least, int most) {
        if (below(70) > 0) {
            return number;
        }
        int[] outside = {least - 1, most + 1, Integer.MIN_VALUE, Integer.MAX_VALUE, -most - 1};
        return outside[below(outside.length)];
    }

    private int below(int bound) {
        seed = seed * 6364136223846793005L + 1442695040888963407L;
        return (int) ((seed >>> 33) % bound);
    }
}
