import java.io.IOException;
import java.lang.reflect.Method;
import java.nio.file.Files;
import java.nio.file.Path;
import java.util.regex.Matcher;
import java.util.regex.Pattern;

/** The calls that README.md shows answer what stands behind them there. */
public final class ReadmeTest {
    private static final Pattern CALL = Pattern.compile("desk\\.(\\w+)\\(([^)]*)\\); // (-?\\d+|true|false)\\b.*");
    private static final Pattern TELL = Pattern.compile("tell\\(desk, text\\); // (-?\\d+)");

    public static void main(String[] args) throws IOException, ReflectiveOperationException {
        String page = Files.readString(Path.of("README.md"));
        String text = firstBlock(page, "```text\n");
        TankerDesk desk = new TankerDesk();
        int calls = 0;
        for (String line : page.split("\n")) {
            Matcher call = CALL.matcher(line);
            Matcher tell = TELL.matcher(line);
            if (line.equals("TankerDesk desk = new TankerDesk();")) {
                desk = new TankerDesk();
            } else if (call.matches()) {
                Check.due(line, answer(desk, call.group(1), call.group(2)), wanted(call.group(3)));
                calls++;
            } else if (tell.matches()) {
                Check.due(line, Check.tell(desk, text), wanted(tell.group(1)));
                calls++;
            }
        }
        Check.due("calls that the page shows", calls, 32);
        everyMethodIsNamed(page);
        Check.finish();
    }

    private static String firstBlock(String page, String fence) {
        int from = page.indexOf(fence) + fence.length();
        return page.substring(from, page.indexOf("```", from));
    }

    private static long wanted(String answer) {
        if (answer.equals("true") || answer.equals("false")) {
            return answer.equals("true") ? 1 : 0;
        }
        return Long.parseLong(answer);
    }

    private static long answer(TankerDesk desk, String name, String row) throws ReflectiveOperationException {
        String[] told = row.isEmpty() ? new String[0] : row.split(", ");
        Class<?>[] types = new Class<?>[told.length];
        Object[] numbers = new Object[told.length];
        for (int i = 0; i < told.length; i++) {
            types[i] = int.class;
            numbers[i] = (int) (long) Long.decode(told[i]);
        }
        Object answer = TankerDesk.class.getMethod(name, types).invoke(desk, numbers);
        return answer instanceof Boolean ? ((Boolean) answer ? 1 : 0) : (Integer) answer;
    }

    private static void everyMethodIsNamed(String page) {
        for (Method method : TankerDesk.class.getDeclaredMethods()) {
            if (java.lang.reflect.Modifier.isPublic(method.getModifiers())) {
                Check.due("the table names " + method.getName(), page.contains("`" + method.getName() + "("), true);
            }
        }
    }
}
