import java.lang.reflect.Constructor;
import java.lang.reflect.Field;
import java.lang.reflect.Method;
import java.lang.reflect.Modifier;
import java.nio.file.Files;
import java.nio.file.Path;
import java.util.Set;
import java.util.TreeSet;
import java.util.regex.Matcher;
import java.util.regex.Pattern;

/** The public face, and those rules of LANGUAGE.md that can be seen by a look at the class and its text. */
public final class FaceTest {
    private static final String[] METHODS = {
        "feed(int)", "town()", "fault()", "told(int)", "person(int,int)", "onLayer(int)", "dawn(int)", "crow(int)",
        "step(int,int)", "leave(int,int)", "ear(int,int)", "deed(int)", "wipe()", "drift(int)", "undo()",
        "layers(int,int)", "first(int,int)", "together(int)", "asNow()", "crows(int,int)", "know(int,int)",
        "market(int)", "torn(int,int)", "dark(int,int)", "shadow(int,int)", "is(int)", "met(int,int,boolean)",
        "write(int,int,boolean)", "tear()", "judge()", "seed(int)", "keep(int)", "goBack(int)",
    };
    private static final String[] CONSTANTS = {"NONE", "UNKNOWN", "OUTSIDE", "NOT", "FULL"};

    private FaceTest() {
    }

    public static void main(String[] args) throws Exception {
        constants();
        members();
        classesInside();
        text(Files.readString(Path.of("src/main/java/GiltCockcrow.java")));
        Due.end();
    }

    private static void constants() {
        Due.due("NONE", GiltCockcrow.NONE, -1);
        Due.due("UNKNOWN", GiltCockcrow.UNKNOWN, -1000000001);
        Due.due("OUTSIDE", GiltCockcrow.OUTSIDE, -1000000002);
        Due.due("NOT", GiltCockcrow.NOT, -1000000003);
        Due.due("FULL", GiltCockcrow.FULL, -1000000004);
    }

    private static void members() {
        Class<?> face = GiltCockcrow.class;
        Due.due("public and final", face.getModifiers(), Modifier.PUBLIC | Modifier.FINAL);
        Set<String> wanted = new TreeSet<>(Set.of(METHODS));
        Set<String> names = new TreeSet<>();
        Set<String> seen = new TreeSet<>();
        for (Method method : face.getDeclaredMethods()) {
            if (!Modifier.isPrivate(method.getModifiers())) {
                seen.add(signature(method));
                names.add(method.getName());
                Due.dueTrue(method + " answers an int", method.getReturnType() == int.class);
                Due.due(method + " is public alone", method.getModifiers(), Modifier.PUBLIC);
            }
        }
        Due.dueTrue("methods " + seen, seen.equals(wanted));
        for (Method method : face.getDeclaredMethods()) {
            boolean twice = Modifier.isPrivate(method.getModifiers()) && names.contains(method.getName());
            Due.dueTrue(method + " bears no public name", !twice);
        }
        Set<String> fields = new TreeSet<>();
        for (Field field : face.getDeclaredFields()) {
            if (!Modifier.isPrivate(field.getModifiers())) {
                fields.add(field.getName());
                int constant = Modifier.PUBLIC | Modifier.STATIC | Modifier.FINAL;
                Due.due(field + " is a constant", field.getModifiers(), constant);
            }
        }
        Due.dueTrue("constants " + fields, fields.equals(new TreeSet<>(Set.of(CONSTANTS))));
        Constructor<?>[] makers = face.getDeclaredConstructors();
        Due.due("constructors", makers.length, 1);
        Due.due("the constructor is public", makers[0].getModifiers(), Modifier.PUBLIC);
        Due.due("it has no arguments", makers[0].getParameterCount(), 0);
    }

    private static String signature(Method method) {
        StringBuilder out = new StringBuilder(method.getName()).append('(');
        for (Class<?> type : method.getParameterTypes()) {
            out.append(out.charAt(out.length() - 1) == '(' ? "" : ",").append(type.getName());
        }
        return out.append(')').toString();
    }

    private static void classesInside() {
        Class<?>[] inside = GiltCockcrow.class.getDeclaredClasses();
        Due.dueTrue("twelve classes at most", inside.length + 1 <= 12);
        Due.dueTrue("fields of the class", countFields(GiltCockcrow.class) <= 20);
        for (Class<?> each : inside) {
            Due.dueTrue(each + " is static", Modifier.isStatic(each.getModifiers()));
            Due.dueTrue(each + " is not public", !Modifier.isPublic(each.getModifiers()));
            Due.dueTrue(each + " has twenty fields at most", countFields(each) <= 20);
            for (Field field : each.getDeclaredFields()) {
                boolean open = Modifier.isStatic(field.getModifiers()) && !Modifier.isFinal(field.getModifiers());
                Due.dueTrue(field + " is no static state", !open);
            }
            for (Method method : each.getDeclaredMethods()) {
                Due.dueTrue(method + " has seven parameters at most", method.getParameterCount() <= 7);
            }
        }
    }

    private static int countFields(Class<?> each) {
        int count = 0;
        for (Field field : each.getDeclaredFields()) {
            count += Modifier.isStatic(field.getModifiers()) ? 0 : 1;
        }
        return count;
    }

    private static void text(String source) {
        String code = source.replaceAll("(?s)/\\*.*?\\*/", " ").replaceAll("//[^\n]*", " ");
        String[] words = {
            "package", "import", "throw", "throws", "try", "catch", "finally", "synchronized", "assert", "abstract",
            "float", "double", "native", "volatile", "transient", "protected", "record", "var", "Object", "Random",
        };
        for (String word : words) {
            Due.dueTrue("there is no '" + word + "'", !Pattern.compile("\\b" + word + "\\b").matcher(code).find());
        }
        Due.dueTrue("no lambda, no method reference", !code.contains("->") && !code.contains("::"));
        Matcher call = Pattern.compile("\\b([A-Z][A-Za-z]*)\\.([a-zA-Z]+)\\(").matcher(code);
        Set<String> allowed = Set.of("System.arraycopy", "Integer.bitCount", "Math.min", "Math.max");
        while (call.find()) {
            String name = call.group(1) + "." + call.group(2);
            Due.dueTrue(name + " is of the library that is left", allowed.contains(name));
        }
        // all rows are made in constructors: every 'new' stands in a field or in a loop of a constructor
        Matcher made = Pattern.compile("(?m)^(.*)\\bnew\\b.*$").matcher(code);
        while (made.find()) {
            String line = made.group().trim();
            Due.dueTrue("made in a constructor: " + line,
                    line.contains("final ") || line.equals("states[i] = new State();"));
        }
    }
}
