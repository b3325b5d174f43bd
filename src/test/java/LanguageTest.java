import java.io.IOException;
import java.lang.reflect.Field;
import java.lang.reflect.Method;
import java.lang.reflect.Modifier;
import java.nio.file.Files;
import java.nio.file.Path;
import java.util.ArrayList;
import java.util.List;
import java.util.Set;
import java.util.TreeSet;
import java.util.regex.Matcher;
import java.util.regex.Pattern;

/** What of LANGUAGE.md can be seen by looking at the source and at the class. */
public final class LanguageTest {
    private static final String FACE = "heap leave feed end script fault does run fair root cell"
        + " reads waits write work about colour serial reached lost harm seen worst trial states"
        + " outcomes outcome count image again";
    private static final String[] BANNED = {"\\bthrow\\b", "\\bthrows\\b", "\\btry\\b", "\\bcatch\\b",
        "\\bsynchronized\\b", "\\bassert\\b", "->", "::", "\\bvar\\b", "\\binstanceof\\b",
        "\\bprotected\\b", "\\bhashCode\\b", "\\btoString\\b", "\\w+Exact\\b", "\\bdouble\\b",
        "\\bfloat\\b", "\" \\+", "\\+ \"", "\\bsuper\\b", "\\bThread\\b", "\\bnew \\w+\\(.*\\) \\{"};

    public static void main(String[] args) throws IOException {
        String source = Files.readString(Path.of("src/main/java/StoreBufferHeap.java"));
        String code = source.replaceAll("(?s)/\\*.*?\\*/", "").replaceAll("//[^\n]*", "");
        for (String banned : BANNED) {
            Matcher matcher = Pattern.compile(banned).matcher(code);
            Check.isFalse("the source has " + banned, matcher.find());
        }
        importsAreAllowed(code);
        for (int i = 0; i < source.length(); i++) {
            if (source.charAt(i) > 126) {
                Check.isTrue("sign " + (int) source.charAt(i) + " in the source", false);
            }
        }
        methodsAreShort(code);
        faceIsTheDocuments();
        for (Class<?> inner : StoreBufferHeap.class.getDeclaredClasses()) {
            classInside(inner);
        }
        Check.isTrue("at most twelve classes", StoreBufferHeap.class.getDeclaredClasses().length < 12);
        Check.end();
    }

    private static void importsAreAllowed(String code) {
        Matcher imports = Pattern.compile("import ([^;]*);").matcher(code);
        while (imports.find()) {
            Check.isTrue("import " + imports.group(1),
                Set.of("java.util.Arrays", "java.util.ArrayList", "java.util.List")
                    .contains(imports.group(1)));
        }
    }

    /** A method begins with a line that ends in ') {' at four or eight blanks. */
    private static void methodsAreShort(String code) {
        String[] lines = code.split("\n", -1);
        Pattern head = Pattern.compile("^( {4}| {8})[a-zA-Z][\\w\\[\\] ]*\\(([^()]*)\\) \\{$");
        int methods = 0;
        for (int i = 0; i < lines.length; i++) {
            Matcher matcher = head.matcher(lines[i]);
            if (!matcher.find() || lines[i].trim().startsWith("if")) {
                continue;
            }
            methods++;
            int end = i;
            while (!lines[end].equals(matcher.group(1) + "}")) {
                end++;
            }
            Check.isTrue(lines[i].trim() + " has " + (end - i) + " lines", end - i <= 60);
            Check.isTrue(lines[i].trim() + " has many parameters",
                matcher.group(2).split(",").length <= 7);
        }
        Check.isTrue("methods were found: " + methods, methods > 100);
    }

    private static void faceIsTheDocuments() {
        Class<?> face = StoreBufferHeap.class;
        Set<String> due = new TreeSet<>(List.of(FACE.split(" ")));
        List<String> found = new ArrayList<>();
        for (Method method : face.getDeclaredMethods()) {
            int how = method.getModifiers();
            if (Modifier.isPublic(how)) {
                found.add(method.getName());
            } else {
                Check.isTrue(method.getName() + " is private", Modifier.isPrivate(how));
                Check.isFalse(method.getName() + " bears a public name", due.contains(method.getName()));
            }
        }
        Check.same("public methods", found.size(), due.size());
        Check.isTrue("they are the document's", new TreeSet<>(found).equals(due));
        for (Field field : face.getDeclaredFields()) {
            boolean isNone = field.getName().equals("NONE");
            Check.same(field.getName() + " is public", Modifier.isPublic(field.getModifiers()) ? 1 : 0,
                isNone ? 1 : 0);
            Check.isTrue(field.getName() + " is seen outside",
                isNone || Modifier.isPrivate(field.getModifiers()));
        }
        Check.isTrue("final", Modifier.isFinal(face.getModifiers()));
        Check.same("constructors", face.getDeclaredConstructors().length, 1);
    }

    private static void classInside(Class<?> inner) {
        int how = inner.getModifiers();
        Check.isTrue(inner + " is static", Modifier.isStatic(how));
        Check.isFalse(inner + " is public", Modifier.isPublic(how) || Modifier.isProtected(how));
        int fields = 0;
        for (Field field : inner.getDeclaredFields()) {
            boolean isStatic = Modifier.isStatic(field.getModifiers());
            fields += isStatic ? 0 : 1;
            Check.isTrue(field + " is static and not final",
                !isStatic || Modifier.isFinal(field.getModifiers()));
        }
        Check.isTrue(inner + " has " + fields + " fields", fields <= 20);
        for (Method method : inner.getDeclaredMethods()) {
            boolean clashes = List.of(FACE.split(" ")).contains(method.getName());
            Check.isFalse(method + " bears a public name", clashes);
        }
    }
}
