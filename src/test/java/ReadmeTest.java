import java.io.IOException;
import java.lang.reflect.InvocationTargetException;
import java.lang.reflect.Method;
import java.nio.file.Files;
import java.nio.file.Path;
import java.util.regex.Matcher;
import java.util.regex.Pattern;

/** Makes the calls that README.md shows, and holds their answers against those that it tells behind them. */
public final class ReadmeTest {
    private static final Pattern PUT = Pattern.compile("put\\(desk, \"(.*)\"\\);");
    private static final Pattern CALL = Pattern.compile("desk\\.(\\w+)\\((.*)\\);(?: +// (-?\\w+).*)?");

    public static void main(String[] args) throws IOException, IllegalAccessException {
        TitleDesk desk = null;
        int calls = 0;
        for (String line : Files.readAllLines(Path.of("README.md"))) {
            Matcher put = PUT.matcher(line);
            Matcher call = CALL.matcher(line);
            if (line.equals("TitleDesk desk = new TitleDesk();")) {
                desk = new TitleDesk();
            } else if (desk != null && put.matches()) {
                Check.feed(desk, put.group(1).replace("\\\"", "\""));
            } else if (desk != null && call.matches()) {
                String due = call.group(3) == null ? "null" : call.group(3);
                Check.due(line, answer(desk, call.group(1), call.group(2)), due);
                calls++;
            }
        }
        Check.due("README.md shows calls", calls > 20, true);
        Check.end();
    }

    private static String answer(TitleDesk desk, String name, String arguments) throws IllegalAccessException {
        String[] told = arguments.isEmpty() ? new String[0] : arguments.split(", ");
        Object[] values = new Object[told.length];
        for (int i = 0; i < told.length; i++) {
            boolean isTruth = told[i].equals("true") || told[i].equals("false");
            values[i] = isTruth ? (Object) Boolean.valueOf(told[i]) : (Object) Integer.valueOf(told[i]);
        }
        for (Method method : TitleDesk.class.getMethods()) {
            if (method.getName().equals(name) && method.getDeclaringClass() == TitleDesk.class) {
                return answer(desk, method, values);
            }
        }
        return "no such method";
    }

    private static String answer(TitleDesk desk, Method method, Object[] values) throws IllegalAccessException {
        try {
            return String.valueOf(method.invoke(desk, values));
        } catch (InvocationTargetException e) {
            return e.getCause().getClass().getSimpleName();
        }
    }
}
