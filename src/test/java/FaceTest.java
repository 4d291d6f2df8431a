import java.io.IOException;
import java.lang.reflect.Method;
import java.lang.reflect.Modifier;
import java.nio.file.Files;
import java.nio.file.Path;
import java.util.ArrayList;
import java.util.Arrays;
import java.util.List;
import java.util.TreeSet;
import java.util.regex.Matcher;
import java.util.regex.Pattern;

/** The public face: just what the document names, and nothing else that others could see. */
public final class FaceTest {
    private static final Due DUE = new Due("FaceTest");
    private static final String BOUNDS = "IndexOutOfBoundsException";
    private static final String ARGUMENT = "IllegalArgumentException";
    private static final String STATE = "IllegalStateException";

    private static final String[] IN_ORDER = {
        "GhostCandles",
        "---- walls and things", "wall", "candle", "mirror", "tally", "remove", "light",
        "---- ghosts", "come", "send", "rite",
        "---- what is there", "cell", "walled", "ghost", "count", "shines",
        "---- ways", "way", "next",
        "---- hours and looking ahead", "pass", "foresee", "reaches", "advise", "mean", "digest"
    };

    public static void main(String[] args) throws IOException {
        TreeSet<String> due = new TreeSet<>();
        due.add("boolean wall(int,int,int) " + BOUNDS + " " + ARGUMENT + " " + STATE);
        due.add("int candle(int,int,int) " + BOUNDS + " " + ARGUMENT + " " + STATE);
        due.add("int mirror(int,int,boolean) " + BOUNDS + " " + STATE);
        due.add("int tally(int,int) " + BOUNDS + " " + STATE);
        due.add("int remove(int,int) " + BOUNDS + " " + STATE);
        due.add("boolean light(int,int) " + BOUNDS + " " + STATE);
        due.add("int come(int,int,int) " + BOUNDS + " " + ARGUMENT + " " + STATE);
        due.add("int send(int,int,int) " + BOUNDS);
        due.add("int rite(int) " + BOUNDS + " " + STATE);
        due.add("int cell(int,int,int) " + BOUNDS);
        due.add("boolean walled(int,int,int) " + BOUNDS + " " + ARGUMENT);
        due.add("int ghost(int,int) " + BOUNDS);
        due.add("int count(int) " + BOUNDS);
        due.add("int shines(int,int) " + BOUNDS);
        due.add("int way(int,int,int) " + BOUNDS);
        due.add("int next(int) " + BOUNDS);
        due.add("int pass(int) " + ARGUMENT);
        due.add("int foresee(int,int) " + ARGUMENT + " " + BOUNDS);
        due.add("int reaches(int,int,int) " + BOUNDS + " " + ARGUMENT);
        due.add("int advise(int) " + ARGUMENT);
        due.add("double mean()");
        due.add("long digest()");

        TreeSet<String> got = new TreeSet<>();
        for (Method method : GhostCandles.class.getDeclaredMethods()) {
            if (!Modifier.isPrivate(method.getModifiers())) {
                DUE.is(method.getName() + " is public alone", method.getModifiers(), Modifier.PUBLIC);
                got.add(told(method));
            }
        }
        DUE.is("methods", got, due);
        DUE.is("the class", GhostCandles.class.getModifiers(), Modifier.PUBLIC | Modifier.FINAL);
        DUE.is("constructors", GhostCandles.class.getDeclaredConstructors().length, 1);
        DUE.is("public constructors", GhostCandles.class.getConstructors().length, 1);
        DUE.is("fields that others see", Arrays.stream(GhostCandles.class.getDeclaredFields())
                .filter(field -> !Modifier.isPrivate(field.getModifiers())).count(), 0L);
        interfaceSays();
        DUE.end();
    }

    /** What the document has ahead of which calls, as it stands in the file of the class. */
    private static void interfaceSays() throws IOException {
        List<String> found = new ArrayList<>();
        Pattern told = Pattern.compile("    (?:// (----.*)|public (?:\\w+ )?(\\w+)\\(.*)");
        for (String line : Files.readAllLines(Path.of("src", "main", "java", "GhostCandles.java"))) {
            Matcher matcher = told.matcher(line);
            if (matcher.matches()) {
                found.add(matcher.group(1) != null ? matcher.group(1) : matcher.group(2));
            }
        }
        DUE.is("calls and what is ahead of them", found, Arrays.asList(IN_ORDER));
    }

    private static String told(Method method) {
        StringBuilder text = new StringBuilder(method.getReturnType().getSimpleName());
        text.append(' ').append(method.getName()).append('(');
        String comma = "";
        for (Class<?> type : method.getParameterTypes()) {
            text.append(comma).append(type.getSimpleName());
            comma = ",";
        }
        text.append(')');
        for (Class<?> type : method.getExceptionTypes()) {
            text.append(' ').append(type.getSimpleName());
        }
        return text.toString();
    }
}
