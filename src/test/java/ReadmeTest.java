import java.lang.reflect.Method;
import java.nio.file.Files;
import java.nio.file.Path;
import java.util.HashMap;
import java.util.Map;
import java.util.regex.Matcher;
import java.util.regex.Pattern;

/** README.md's example: each call answers the number that stands behind it. */
public final class ReadmeTest extends Checks {
    private static final Pattern CALL = Pattern.compile("(?:int (\\w+) = )?houses\\.(\\w+)\\(([^)]*)\\); *// (-?\\d+)\\b.*");

    private static int answer(WarHouses x, String name, String arguments, Map<String, Integer> known) throws Exception {
        String[] each = arguments.isEmpty() ? new String[0] : arguments.split(", ");
        Class<?>[] types = new Class<?>[each.length];
        Object[] values = new Object[each.length];
        for (int i = 0; i < each.length; i++) {
            types[i] = int.class;
            values[i] = known.containsKey(each[i]) ? known.get(each[i]) : Integer.valueOf(each[i]);
        }
        Method m = WarHouses.class.getMethod(name, types);
        return (Integer) m.invoke(x, values);
    }

    public static void main(String[] args) throws Exception {
        at("README.md: Use");
        WarHouses x = new WarHouses();
        Map<String, Integer> known = new HashMap<>();
        int calls = 0;
        for (String line : Files.readString(Path.of("README.md")).split("\n")) {
            Matcher m = CALL.matcher(line);
            if (m.matches()) {
                int got = answer(x, m.group(2), m.group(3), known);
                due(m.group(2) + "(" + m.group(3) + ")", got, Integer.parseInt(m.group(4)));
                if (m.group(1) != null) {
                    known.put(m.group(1), got);
                }
                calls++;
            }
        }
        due("calls of the example", calls, 15);
        finish("readme");
    }
}
