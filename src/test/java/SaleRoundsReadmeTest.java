import java.io.IOException;
import java.lang.reflect.Method;
import java.lang.reflect.Modifier;
import java.nio.file.Files;
import java.nio.file.Path;
import java.util.Set;
import java.util.TreeSet;
import java.util.regex.Matcher;
import java.util.regex.Pattern;

/** Asks the calls that README.md shows and holds the answers against those that stand there behind them. */
public final class SaleRoundsReadmeTest extends SaleRoundsChecks {
    private static final Pattern BLOCK = Pattern.compile("(?s)```(\\w+)\n(.*?)```");
    private static final Pattern CALL = Pattern.compile("(?m)^x\\.(\\w+)\\(([^)]*)\\); *// (-?\\d+)");
    private static final Pattern LINES = Pattern.compile("(?m)^tell\\(x, text\\); *// (\\d+)");

    private static String block(String readme, String kind, String with) {
        Matcher blocks = BLOCK.matcher(readme);
        while (blocks.find()) {
            if (blocks.group(1).equals(kind) && blocks.group(2).contains(with)) {
                return blocks.group(2);
            }
        }
        throw new IllegalStateException("README.md has no such block: " + kind + " with " + with);
    }

    private static long ask(SaleRounds x, String name, String told) throws ReflectiveOperationException {
        String[] words = told.isEmpty() ? new String[0] : told.split(", ");
        for (Method method : SaleRounds.class.getMethods()) {
            Class<?>[] types = method.getParameterTypes();
            if (method.getName().equals(name) && types.length == words.length) {
                Object[] all = new Object[words.length];
                for (int i = 0; i < all.length; i++) {
                    all[i] = types[i] == long.class ? (Object) Long.valueOf(words[i]) : (Object) Integer.valueOf(words[i]);
                }
                return ((Number) method.invoke(x, all)).longValue();
            }
        }
        throw new IllegalStateException("the class has no call " + name + " of " + words.length);
    }

    /** Every call of the face is shown, but feed() and book(), which the way to tell a text shows. */
    private static void showsAll(Set<String> shown) {
        for (Method method : SaleRounds.class.getDeclaredMethods()) {
            boolean telling = method.getName().equals("feed") || method.getName().equals("book");
            if (Modifier.isPublic(method.getModifiers()) && !telling) {
                due("README.md shows " + method.getName(), shown.contains(method.getName()) ? 1 : 0, 1);
            }
        }
    }

    public static void main(String[] args) throws IOException, ReflectiveOperationException {
        String readme = Files.readString(Path.of("README.md"));
        String example = block(readme, "java", "tell(x, text);");
        SaleRounds x = new SaleRounds();
        Matcher lines = LINES.matcher(example);
        due("README.md tells its text", lines.find() ? 1 : 0, 1);
        due("tell(x, text)", tell(x, block(readme, "text", "land ")), Integer.parseInt(lines.group(1)));
        Set<String> shown = new TreeSet<>();
        Matcher calls = CALL.matcher(example);
        while (calls.find()) {
            String call = calls.group(1) + "(" + calls.group(2) + ")";
            due(call, ask(x, calls.group(1), calls.group(2)), Long.parseLong(calls.group(3)));
            shown.add(calls.group(1));
        }
        showsAll(shown);
        close();
    }
}
