import java.io.File;
import java.lang.reflect.Method;
import java.lang.reflect.Modifier;
import java.nio.file.Files;
import java.nio.file.Path;
import java.util.regex.Matcher;
import java.util.regex.Pattern;

/** README.md: its example answers as it says, and it names every call and every test. */
public final class ReadmeTest {
    private static final Pattern TEXT = Pattern.compile("String text = \"([^\"]*)\";");
    private static final Pattern CALL = Pattern.compile("(?m)^town\\.(\\w+)\\(([^)]*)\\); *// (-?\\w+)");
    private static final int CALLS_AT_LEAST = 20;

    private ReadmeTest() {
    }

    public static void main(String[] args) throws Exception {
        String page = Files.readString(Path.of("README.md"));
        example(page);
        namesEveryCall(page);
        namesEveryTest(page);
        Due.end();
    }

    private static void example(String page) throws Exception {
        GiltCockcrow town = new GiltCockcrow();
        Matcher text = TEXT.matcher(page);
        boolean found = text.find();
        Due.dueTrue("README.md has the text of a town", found);
        Due.feedAll(town, found ? text.group(1) : "");
        Matcher call = CALL.matcher(page);
        int calls = 0;
        while (call.find()) {
            calls++;
            Due.due("README.md: " + call.group(), answer(town, call.group(1), call.group(2)), number(call.group(3)));
        }
        Due.dueTrue("README.md has an example", calls >= CALLS_AT_LEAST);
    }

    private static int answer(GiltCockcrow town, String name, String list) throws Exception {
        String[] words = list.isEmpty() ? new String[0] : list.split(", *");
        for (Method method : GiltCockcrow.class.getMethods()) {
            if (method.getName().equals(name) && method.getParameterCount() == words.length) {
                Object[] values = new Object[words.length];
                for (int i = 0; i < words.length; i++) {
                    boolean truth = method.getParameterTypes()[i] == boolean.class;
                    values[i] = truth ? (Object) Boolean.valueOf(words[i]) : (Object) number(words[i]);
                }
                return (Integer) method.invoke(town, values);
            }
        }
        throw new IllegalArgumentException("there is no " + name + "(" + list + ")");
    }

    private static int number(String word) throws Exception {
        return Character.isLetter(word.charAt(0))
                ? GiltCockcrow.class.getField(word).getInt(null) : Integer.parseInt(word);
    }

    private static void namesEveryCall(String page) {
        for (Method method : GiltCockcrow.class.getDeclaredMethods()) {
            if (Modifier.isPublic(method.getModifiers())) {
                Due.dueTrue("README.md names " + method.getName(), page.contains("`" + method.getName() + "`"));
            }
        }
    }

    private static void namesEveryTest(String page) {
        String[] files = new File("src/test/java").list();
        Due.dueTrue("there are tests", files != null);
        for (String file : files == null ? new String[0] : files) {
            if (file.endsWith("Test.java")) {
                String name = file.substring(0, file.length() - ".java".length());
                Due.dueTrue("README.md names " + name, page.contains("`" + name + "`"));
            }
        }
    }
}
