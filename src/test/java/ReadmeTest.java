import java.lang.reflect.Method;
import java.nio.file.Files;
import java.nio.file.Path;
import java.util.regex.Matcher;
import java.util.regex.Pattern;

/** The calls that README.md shows, in their order on one object, answer what stands behind them. */
public final class ReadmeTest {
    private static final Pattern CALL = Pattern.compile("(?m)^market\\.(\\w+)\\(([^)]*)\\);(?: +// (-?[0-9]+))?");

    public static void main(String[] args) throws Exception {
        LemonMarket market = new LemonMarket();
        int calls = 0;
        int wrong = 0;
        Matcher m = CALL.matcher(Files.readString(Path.of("README.md")));
        while (m.find()) {
            calls++;
            int got = call(market, m.group(1), m.group(2));
            if (m.group(3) == null || got != Integer.parseInt(m.group(3))) {
                wrong++;
                System.out.println("README.md: " + m.group() + " answered " + got);
            }
        }
        if (calls == 0) wrong++;
        System.out.println("ReadmeTest: " + calls + " calls, " + wrong + " wrong");
        if (wrong != 0) System.exit(1);
    }

    private static int call(LemonMarket market, String name, String numbers) throws Exception {
        String[] told = numbers.isEmpty() ? new String[0] : numbers.split(", ");
        for (Method m : LemonMarket.class.getMethods()) {
            if (!m.getName().equals(name) || m.getParameterCount() != told.length) continue;
            Object[] given = new Object[told.length];
            for (int i = 0; i < told.length; i++) {
                long v = Long.decode(told[i].replace("L", ""));
                given[i] = m.getParameterTypes()[i] == long.class ? (Object) v : (Object) (int) v;
            }
            return (Integer) m.invoke(market, given);
        }
        throw new IllegalArgumentException(name + " of " + told.length + " numbers");
    }
}
