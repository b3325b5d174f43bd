import java.io.PrintWriter;
import java.io.StringWriter;
import java.nio.file.Files;
import java.nio.file.Path;
import java.util.ArrayList;
import java.util.HashMap;
import java.util.HashSet;
import java.util.List;
import java.util.Map;
import java.util.Set;
import java.util.regex.Matcher;
import java.util.regex.Pattern;
import java.util.spi.ToolProvider;

/** LANGUAGE.md's rules 8 and 11: which methods call which, as the compiled classes have it. */
public final class DepthTest {
    private static final int MOST_DEEP = 8;
    private static final Pattern CLASS = Pattern.compile("class (StoreBufferHeap[\\w$]*)");
    private static final Pattern METHOD = Pattern.compile("^  \\S.*?([\\w$]+)\\(.*\\);$");
    private static final Pattern DESCRIPTOR = Pattern.compile("^    descriptor: (\\(\\S+)$");
    private static final Pattern INVOKE = Pattern.compile("invoke\\w+ .*// Method (\\S+):(\\S+)$");

    private final Map<String, List<String>> callees = new HashMap<>();
    private final Map<String, Integer> depths = new HashMap<>();
    private final Set<String> open = new HashSet<>();

    public static void main(String[] args) throws Exception {
        ToolProvider javap = ToolProvider.findFirst("javap").orElse(null);
        if (javap == null) {
            System.out.println("no javap in this Java: call depth was not looked at");
            return;
        }
        DepthTest test = new DepthTest();
        Path classes = Path.of(StoreBufferHeap.class.getProtectionDomain().getCodeSource().getLocation().toURI());
        try (var files = Files.list(classes)) {
            for (Path file : files.filter(DepthTest::isOfTheProgram).toList()) {
                test.read(told(javap, file));
            }
        }
        Check.isTrue("methods were found: " + test.callees.size(), test.callees.size() > 100);
        Check.isTrue("worst() goes some way down", test.depthOf("StoreBufferHeap.worst:(II)I") > 4);
        for (String method : test.callees.keySet()) {
            int depth = test.depthOf(method);
            Check.isTrue(method + " goes " + depth + " deep", depth <= MOST_DEEP);
        }
        Check.end();
    }

    private static boolean isOfTheProgram(Path file) {
        return file.getFileName().toString().matches("StoreBufferHeap(\\$\\w+)?\\.class");
    }

    private static String told(ToolProvider javap, Path file) {
        StringWriter text = new StringWriter();
        PrintWriter out = new PrintWriter(text);
        javap.run(out, out, "-p", "-c", "-s", file.toString());
        return text.toString();
    }

    private void read(String text) {
        Matcher head = CLASS.matcher(text);
        Check.isTrue("a class is told", head.find());
        String owner = head.group(1);
        String name = "";
        List<String> called = new ArrayList<>();
        for (String line : text.split("\n")) {
            Matcher method = METHOD.matcher(line);
            Matcher descriptor = DESCRIPTOR.matcher(line);
            Matcher invoke = INVOKE.matcher(line);
            if (method.find()) {
                name = method.group(1).equals(owner) ? "\"<init>\"" : method.group(1);
            } else if (descriptor.find()) {
                called = new ArrayList<>();
                callees.put(owner + "." + name + ":" + descriptor.group(1), called);
            } else if (invoke.find()) {
                boolean elsewhere = invoke.group(1).contains(".");
                called.add((elsewhere ? "" : owner + ".") + invoke.group(1) + ":" + invoke.group(2));
            }
        }
    }

    /** How many calls of the program's own methods stand open at once; the library's don't count. */
    private int depthOf(String method) {
        if (!callees.containsKey(method)) {
            return 0;
        }
        Integer known = depths.get(method);
        if (known != null) {
            return known;
        }
        Check.isTrue(method + " calls itself", open.add(method));
        int deepest = 0;
        for (String callee : callees.get(method)) {
            deepest = Math.max(deepest, open.contains(callee) ? MOST_DEEP : depthOf(callee));
        }
        open.remove(method);
        depths.put(method, deepest + 1);
        return deepest + 1;
    }
}
