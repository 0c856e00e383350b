import java.lang.reflect.Method;
import java.nio.file.Files;
import java.nio.file.Path;
import java.util.regex.Matcher;
import java.util.regex.Pattern;

/** The calls that README.md shows, one behind the other on one object, answer as it tells; run at the project's root. */
public final class ReadmeTest {
    private static final Pattern SHOWN = Pattern.compile("(?m)^town\\.(\\w+)\\(([^)]*)\\);\\s*// (-?\\d+)(?::.*)?$");
    private static final Pattern CALL = Pattern.compile("(?m)^town\\.");

    public static void main(String[] args) throws Exception {
        String page = Files.readString(Path.of("README.md"));
        LinenSigns town = new LinenSigns();
        int shown = 0;
        Matcher call = SHOWN.matcher(page);
        while (call.find()) {
            shown++;
            Due.is(call.group(), answer(town, call.group(1), call.group(2)), Long.parseLong(call.group(3)));
        }
        Due.is("every call tells its answer", shown, CALL.matcher(page).results().count());
        Due.end();
    }

    private static long answer(LinenSigns town, String name, String told) throws Exception {
        String[] words = told.isEmpty() ? new String[0] : told.split(", *");
        for (Method act : LinenSigns.class.getMethods()) {
            if (act.getName().equals(name) && act.getParameterCount() == words.length) {
                return ((Number) act.invoke(town, given(act, words))).longValue();
            }
        }
        throw new IllegalArgumentException("the page shows a call that isn't there: " + name);
    }

    private static Object[] given(Method act, String[] words) {
        Object[] given = new Object[words.length];
        for (int i = 0; i < words.length; i++) {
            long number = Long.decode(words[i]);
            boolean isInt = act.getParameterTypes()[i] == int.class;
            given[i] = isInt ? (Object) (int) number : (Object) number;
        }
        return given;
    }
}
