import java.io.IOException;
import java.lang.reflect.InvocationTargetException;
import java.lang.reflect.Method;
import java.nio.file.Files;
import java.nio.file.Path;
import java.util.Set;
import java.util.TreeSet;
import java.util.regex.Matcher;
import java.util.regex.Pattern;

/** Runs the rows of README.md: each must answer what stands behind it. */
public final class ReadmeTest {
    private static final Pattern BLOCK = Pattern.compile("(?s)```java\n(.*?)```");
    private static final Pattern TAPE = Pattern.compile("tape\\(heap, \"([^\"]*)\"\\);");
    private static final Pattern CALL =
        Pattern.compile("heap\\.(\\w+)\\(([^()]*)\\); +// (-?\\d+|true|false): .*");
    private static final String ANEW = "StoreBufferHeap heap = new StoreBufferHeap();";

    private StoreBufferHeap heap = new StoreBufferHeap();
    private int calls = 0;

    public static void main(String[] args) throws IOException, ReflectiveOperationException {
        String page = Files.readString(Path.of("README.md"));
        ReadmeTest test = new ReadmeTest();
        Matcher blocks = BLOCK.matcher(page);
        while (blocks.find()) {
            if (!blocks.group(1).startsWith("static void tape(")) {
                test.runRows(blocks.group(1).split("\n"));
            }
        }
        Check.isTrue("rows were found: " + test.calls, test.calls > 20);
        allCallsAreNamed(page);
        allTestsAreNamed(page);
        Check.end();
    }

    private void runRows(String[] rows) throws IllegalAccessException, InvocationTargetException {
        for (String row : rows) {
            Matcher tape = TAPE.matcher(row);
            Matcher call = CALL.matcher(row);
            if (tape.matches()) {
                Check.tape(heap, tape.group(1));
            } else if (call.matches()) {
                calls++;
                Check.sameText(row, String.valueOf(answer(call.group(1), call.group(2))), call.group(3));
            } else {
                Check.sameText("a row of README.md", row, ANEW);
                heap = new StoreBufferHeap();
            }
        }
    }

    private Object answer(String name, String told) throws IllegalAccessException, InvocationTargetException {
        String[] texts = told.isEmpty() ? new String[0] : told.split(", ");
        Method method = methodOf(name);
        Object[] arguments = new Object[texts.length];
        for (int i = 0; i < texts.length; i++) {
            boolean isTruth = method.getParameterTypes()[i] == boolean.class;
            arguments[i] = isTruth ? (Object) Boolean.valueOf(texts[i]) : (Object) Integer.decode(texts[i]);
        }
        return method.invoke(heap, arguments);
    }

    private static Method methodOf(String name) {
        for (Method method : StoreBufferHeap.class.getMethods()) {
            if (method.getName().equals(name)) {
                return method;
            }
        }
        throw new IllegalArgumentException("README.md calls " + name);
    }

    private static void allCallsAreNamed(String page) {
        Set<String> names = new TreeSet<>();
        for (Method method : StoreBufferHeap.class.getMethods()) {
            if (method.getDeclaringClass() == StoreBufferHeap.class) {
                names.add(method.getName());
            }
        }
        for (String name : names) {
            Check.isTrue(name + " is named in README.md", page.contains("`" + name + "`"));
        }
    }

    private static void allTestsAreNamed(String page) throws IOException {
        try (var files = Files.list(Path.of("src/test/java"))) {
            files.map(file -> file.getFileName().toString())
                .filter(name -> name.endsWith("Test.java"))
                .map(name -> name.substring(0, name.length() - ".java".length()))
                .forEach(name -> Check.isTrue(name + " is named in README.md", page.contains("`" + name + "`")));
        }
    }
}
