import java.lang.reflect.Method;
import java.lang.reflect.Modifier;
import java.nio.file.Files;
import java.nio.file.Path;
import java.util.ArrayList;
import java.util.List;
import java.util.regex.Matcher;
import java.util.regex.Pattern;

/** README.md is true: its calls answer what stands behind them, and its table tells the whole face. */
public final class ReadmeTest {
    private static final Due DUE = new Due();
    private static final Pattern CALL = Pattern.compile("hall\\.(\\w+)\\((.*?)\\); +// (-?\\w+)");

    public static void main(String[] args) throws Exception {
        String readme = Files.readString(Path.of("README.md"));
        callsAnswerAsTold(readme);
        tableTellsTheFace(readme);
        DUE.end();
    }

    private static void callsAnswerAsTold(String readme) throws Exception {
        RollHall hall = new RollHall();
        String told = readme.substring(readme.indexOf("```java"), readme.indexOf("## Tests"));
        int calls = 0;
        for (String line : told.lines().filter(l -> l.startsWith("hall.")).toList()) {
            Matcher m = CALL.matcher(line);
            DUE.is("a call with its answer: " + line, m.lookingAt() ? 1 : 0, 1);
            if (m.lookingAt()) {
                DUE.is(line, answer(hall, m.group(1), m.group(2)), number(m.group(3)));
                calls++;
            }
        }
        DUE.is("there are calls", calls > 0 ? 1 : 0, 1);
    }

    private static long answer(RollHall hall, String name, String texts) throws Exception {
        Method call = face(name);
        List<Object> given = new ArrayList<>();
        for (String text : texts.isEmpty() ? new String[0] : texts.split(", ")) {
            boolean isLong = call.getParameterTypes()[given.size()] == long.class;
            given.add(isLong ? (Object) number(text) : (Object) (int) number(text));
        }
        return (int) call.invoke(hall, given.toArray());
    }

    private static Method face(String name) {
        for (Method m : RollHall.class.getDeclaredMethods()) {
            if (m.getName().equals(name)) {
                return m;
            }
        }
        throw new IllegalArgumentException("no call " + name);
    }

    /** A number as Java writes it, or one of the class's constants. */
    private static long number(String text) throws Exception {
        String bare = text.replace("RollHall.", "").replaceAll("(?<=[0-9a-f])L$", "");
        if (bare.matches("[A-Z]+")) {
            return RollHall.class.getField(bare).getInt(null);
        }
        return bare.startsWith("0b") ? Long.parseLong(bare.substring(2), 2) : Long.decode(bare);
    }

    private static void tableTellsTheFace(String readme) {
        String table = readme.lines().filter(l -> l.startsWith("| ")).reduce("", String::concat);
        for (Method m : RollHall.class.getDeclaredMethods()) {
            if (Modifier.isPublic(m.getModifiers())) {
                DUE.is("in the table: " + m.getName(), table.split("`" + m.getName() + "`", -1).length - 1, 1);
            }
        }
    }
}
