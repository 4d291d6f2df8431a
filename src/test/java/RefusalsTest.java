import java.lang.reflect.InvocationTargetException;
import java.lang.reflect.Method;
import java.util.ArrayList;
import java.util.Arrays;
import java.util.List;

/**
 * Each sentence "Throws .. if .. is not a to b": every method, in an empty house, an ordinary one
 * and a full one, with each argument the least, the greatest, one beyond either and the least and
 * greatest int, in all combinations. What is outside is refused with the exception that is named
 * first, and changes nothing; what is inside is not refused with one of these.
 */
public final class RefusalsTest {
    private static final Due DUE = new Due("RefusalsTest");
    private static final String BOUNDS = "throws IndexOutOfBoundsException";
    private static final String ARGUMENT = "throws IllegalArgumentException";
    private static final String STATE = "throws IllegalStateException";
    private static final String CELL = " x 0 8 B y 0 6 B";

    /**
     * A method, the exceptions of its sentences in their order, then its arguments: the name, the
     * least and the greatest value (G is the greatest number of a ghost there), the exception.
     */
    private static final String[] METHODS = {
        "wall BAS" + CELL + " direction 0 3 A", "candle BAS" + CELL + " wax 1 60 A",
        "mirror BS" + CELL + " toRight", "tally BS" + CELL, "remove BS" + CELL, "light BS" + CELL,
        "come BAS" + CELL + " pace 1 3 A", "send B ghost 0 G B" + CELL, "rite BS ghost 0 G B",
        "cell B" + CELL + " what 0 4 B", "walled BA" + CELL + " direction 0 3 A",
        "ghost B ghost 0 G B what 0 7 B", "count B what 0 9 B", "shines B" + CELL,
        "way B ghost 0 G B" + CELL, "next B ghost 0 G B", "pass A hours 1 40 A",
        "foresee AB hours 1 40 A what 0 3 B", "reaches BA" + CELL + " marks 0 99 A",
        "advise A hours 1 8 A"
    };
    private static final String[] HOUSES = {"empty", "ordinary", "full"};

    public static void main(String[] args) throws IllegalAccessException {
        for (String house : HOUSES) {
            for (String method : METHODS) {
                tryAll(house, method.split(" "));
            }
        }
        DUE.end();
    }

    private static GhostCandles made(String house) {
        if (house.equals("full")) {
            return Houses.full();
        }
        GhostCandles made = new GhostCandles();
        if (house.equals("ordinary")) {
            made.candle(0, 0, 5);
            made.tally(8, 6);
            made.mirror(8, 0, true);
            made.wall(0, 0, 1);
            made.come(0, 6, 2);
            made.come(8, 6, 1);
            made.send(0, 8, 6);
            made.pass(1);
        }
        return made;
    }

    private static void tryAll(String house, String[] words) throws IllegalAccessException {
        List<Object[]> open = new ArrayList<>();
        open.add(new Object[0]);
        for (int at = 2; at < words.length; at += words[at].equals("toRight") ? 1 : 4) {
            List<Object[]> longer = new ArrayList<>();
            for (Object[] some : open) {
                for (Object value : values(house, words, at)) {
                    Object[] more = Arrays.copyOf(some, some.length + 1);
                    more[some.length] = value;
                    longer.add(more);
                }
            }
            open = longer;
        }
        for (Object[] arguments : open) {
            tryOne(house, words, arguments);
        }
    }

    private static Object[] values(String house, String[] words, int at) {
        if (words[at].equals("toRight")) {
            return new Object[] {true, false};
        }
        int least = Integer.parseInt(words[at + 1]);
        int greatest = greatest(house, words[at + 2]);
        return new Object[] {
            Integer.MIN_VALUE, least - 1, least, greatest, greatest + 1, Integer.MAX_VALUE
        };
    }

    private static int greatest(String house, String word) {
        if (!word.equals("G")) {
            return Integer.parseInt(word);
        }
        return house.equals("full") ? 5 : house.equals("ordinary") ? 1 : -1;
    }

    private static void tryOne(String house, String[] words, Object[] arguments)
            throws IllegalAccessException {
        GhostCandles made = made(house);
        StringBuilder call = new StringBuilder(words[0]).append(" in a house that is ").append(house);
        for (Object argument : arguments) {
            call.append(' ').append(argument);
        }
        long before = made.digest();
        String got = answer(words[0], made, arguments);
        String broken = broken(house, words, arguments);
        if (!broken.isEmpty()) {
            DUE.is(call.toString(), got, broken);
            DUE.is("digest() behind " + call, made.digest(), before);
            return;
        }
        if (got.equals(STATE)) {
            DUE.is(call + " may be refused for the state", words[1].contains("S"), true);
            DUE.is("digest() behind " + call, made.digest(), before);
            return;
        }
        DUE.is(call + " answers, and not " + got, got.startsWith("throws"), false);
    }

    /** The exception named first of those whose sentence is broken; empty if none is. */
    private static String broken(String house, String[] words, Object[] arguments) {
        for (char exception : words[1].toCharArray()) {
            int at = 2;
            for (Object argument : arguments) {
                if (words[at].equals("toRight")) {
                    continue;
                }
                int least = Integer.parseInt(words[at + 1]);
                int greatest = greatest(house, words[at + 2]);
                int number = (Integer) argument;
                if ((number < least || number > greatest) && words[at + 3].charAt(0) == exception) {
                    return exception == 'B' ? BOUNDS : ARGUMENT;
                }
                at += 4;
            }
        }
        return "";
    }

    private static String answer(String name, GhostCandles house, Object[] arguments)
            throws IllegalAccessException {
        for (Method method : GhostCandles.class.getMethods()) {
            if (method.getName().equals(name)) {
                try {
                    return String.valueOf(method.invoke(house, arguments));
                } catch (InvocationTargetException e) {
                    return "throws " + e.getCause().getClass().getSimpleName();
                }
            }
        }
        return "no method " + name;
    }
}
