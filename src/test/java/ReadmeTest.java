import java.io.IOException;
import java.lang.reflect.Method;
import java.lang.reflect.Modifier;
import java.nio.charset.StandardCharsets;
import java.nio.file.Files;
import java.nio.file.Path;
import java.util.regex.Matcher;
import java.util.regex.Pattern;

/** The calls that README.md shows answer what it says behind them, and every act has its place in its table. */
public final class ReadmeTest {
    private static final Pattern SHOWN = Pattern.compile("(?m)^x\\.(\\w+)\\(([-\\dL, ]*)\\);\\s*// (-?\\d+): .*$");
    private static final Pattern ANY_CALL = Pattern.compile("(?m)^x\\..*$");

    private final GorgeRocks x = new GorgeRocks();

    public static void main(String[] args) throws IOException, ReflectiveOperationException {
        Path path = Path.of(System.getProperty("project", "."), "README.md");
        String page = new String(Files.readAllBytes(path), StandardCharsets.UTF_8);
        new ReadmeTest().calls(page);
        table(page);
        Due.end();
    }

    private void calls(String page) throws ReflectiveOperationException {
        int read = 0;
        Matcher m = SHOWN.matcher(page);
        while (m.find()) {
            read++;
            Due.is(m.group(), answer(m.group(1), m.group(2)), Integer.parseInt(m.group(3)));
        }
        Due.is("calls shown with an answer", read, ANY_CALL.matcher(page).results().count());
        Due.is("there are some", read > 20 ? 1 : 0, 1);
    }

    private int answer(String name, String list) throws ReflectiveOperationException {
        String[] words = list.isEmpty() ? new String[0] : list.split(", ");
        for (Method act : GorgeRocks.class.getDeclaredMethods()) {
            if (act.getName().equals(name) && Modifier.isPublic(act.getModifiers())) {
                Object[] given = new Object[words.length];
                for (int i = 0; i < words.length; i++) {
                    boolean wide = act.getParameterTypes()[i] == long.class;
                    given[i] = wide ? (Object) Long.valueOf(words[i].replace("L", "")) : (Object) Integer.valueOf(words[i]);
                }
                return (Integer) act.invoke(x, given);
            }
        }
        throw new NoSuchMethodException(name);
    }

    private static void table(String page) {
        String rows = page.substring(page.indexOf("| acts |"), page.indexOf("## How to run"));
        for (Method act : GorgeRocks.class.getDeclaredMethods()) {
            if (Modifier.isPublic(act.getModifiers())) {
                Due.is("the table has " + act.getName(), rows.contains("`" + act.getName() + "`") ? 1 : 0, 1);
            }
        }
    }
}
