import java.lang.reflect.Method;
import java.lang.reflect.Modifier;
import java.nio.file.Files;
import java.nio.file.Path;
import java.util.regex.Matcher;
import java.util.regex.Pattern;

/** What README.md tells of the class: its example is run as it stands there, so that it cannot grow old. */
public final class ReadmeTest {
    private static final Pattern TEXT = Pattern.compile("\"([^\"]+)\"\\.toCharArray");
    private static final Pattern CALL = Pattern.compile("(?m)^x\\.(\\w+)\\((.*?)\\);(?: +// (-?\\d+)\\b.*)?$");
    private static final Due due = new Due("ReadmeTest");

    public static void main(String[] args) throws Exception {
        String readme = Files.readString(Path.of("README.md"));
        example(readme);
        namesEveryCall(readme);
        due.isTrue("README.md tells how to run the tests", readme.contains("```sh\n.ci/run\n```"));
        due.end();
    }

    private static void example(String readme) throws Exception {
        int begin = readme.indexOf("```java");
        int end = readme.indexOf("```", begin + 3);
        due.isTrue("README.md has an example", begin >= 0 && end > begin);
        String code = readme.substring(Math.max(begin, 0), Math.max(end, 0));
        Matcher text = TEXT.matcher(code);
        due.isTrue("it has a SEA", text.find());
        FourLodgers x = Due.written(text.group(1));
        Matcher call = CALL.matcher(code);
        int calls = 0;
        while (call.find()) {
            calls++;
            due.isTrue("an answer is told: " + call.group(), call.group(3) != null);
            due.is(call.group(), answer(x, call.group(1), call.group(2)), Long.parseLong(call.group(3)));
        }
        due.is("calls of the example, each on a line of its own", calls, code.split("\nx\\.", -1).length - 1);
    }

    private static long answer(FourLodgers x, String name, String arguments) throws Exception {
        String[] told = arguments.isEmpty() ? new String[0] : arguments.split(", ");
        for (Method method : FourLodgers.class.getDeclaredMethods()) {
            if (method.getName().equals(name) && method.getParameterCount() == told.length) {
                Object[] given = new Object[told.length];
                for (int i = 0; i < told.length; i++) {
                    boolean yesOrNo = method.getParameterTypes()[i] == boolean.class;
                    given[i] = yesOrNo ? (Object) Boolean.valueOf(told[i]) : (Object) Integer.valueOf(told[i]);
                }
                return ((Number) method.invoke(x, given)).longValue();
            }
        }
        throw new IllegalArgumentException("no such call: " + name + "(" + arguments + ")");
    }

    private static void namesEveryCall(String readme) {
        for (Method method : FourLodgers.class.getDeclaredMethods()) {
            if (Modifier.isPublic(method.getModifiers())) {
                due.isTrue("README.md names " + method.getName(), readme.contains("`" + method.getName() + "`"));
            }
        }
        for (String constant : new String[] {"NONE", "UNKNOWN", "OUTSIDE", "STATE", "FULL"}) {
            due.isTrue("README.md names " + constant, readme.contains("`" + constant + "`"));
        }
    }
}
