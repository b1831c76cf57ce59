import java.lang.reflect.Method;
import java.nio.file.Files;
import java.nio.file.Path;
import java.util.regex.Matcher;
import java.util.regex.Pattern;

/** The calls that README.md shows, each with the answer that it tells behind "//". */
public final class ReadmeTest {
    private static final Pattern CALL = Pattern.compile("x\\.(\\w+)\\((.*?)\\); +// (true|false|-?\\d+).*");

    public static void main(String[] args) throws Exception {
        JellyCathedral x = new JellyCathedral();
        boolean inJava = false;
        int calls = 0;
        for (String line : Files.readAllLines(Path.of("README.md"))) {
            if (line.startsWith("```")) {
                inJava = line.equals("```java");
            } else if (inJava && line.startsWith("x.")) {
                call(x, line);
                calls++;
            }
        }
        Check.due("README shows calls", true, calls > 25);
        Check.end();
    }

    private static void call(JellyCathedral x, String line) throws Exception {
        Matcher m = CALL.matcher(line);
        Check.due("README tells an answer: " + line, true, m.matches());
        if (m.matches()) {
            String[] told = m.group(2).isEmpty() ? new String[0] : m.group(2).split(", ");
            Check.due("README: " + line, true, m.group(3).equals(answer(x, m.group(1), told)));
        }
    }

    private static String answer(JellyCathedral x, String name, String[] told) throws Exception {
        for (Method m : JellyCathedral.class.getMethods()) {
            if (m.getName().equals(name) && m.getParameterCount() == told.length) {
                Object[] given = new Object[told.length];
                for (int i = 0; i < told.length; i++) {
                    long v = Long.decode(told[i]);
                    if (m.getParameterTypes()[i] == long.class) {
                        given[i] = v;
                    } else {
                        given[i] = (int) v;
                    }
                }
                return String.valueOf(m.invoke(x, given));
            }
        }
        return "no such call";
    }
}
