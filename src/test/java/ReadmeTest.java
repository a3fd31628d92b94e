import java.io.IOException;
import java.lang.reflect.Method;
import java.lang.reflect.Modifier;
import java.net.URL;
import java.net.URLClassLoader;
import java.nio.file.Files;
import java.nio.file.Path;
import java.util.ArrayList;
import java.util.List;
import java.util.regex.Matcher;
import java.util.regex.Pattern;
import javax.tools.ToolProvider;

/** README.md: its Java compiles, each call there answers what stands behind it, and it names every call of the face. */
final class ReadmeTest {
    private static final Due due = new Due();
    private static final String CLASS = "ReadmeExamples";

    public static void main(String[] args) throws Exception {
        String page = Files.readString(Path.of("README.md"));
        namesEveryCall(page);
        long[][] answers = run(sourceOf(blocks(page)));
        due.about("README.md");
        for (long[] answer : answers) {
            due.is("answer " + (answer[0] + 1), answer[1], answer[2]);
        }
        due.finish();
    }

    private static void namesEveryCall(String page) {
        due.about("README.md names");
        for (Method method : WidowRoads.class.getDeclaredMethods()) {
            if (Modifier.isPublic(method.getModifiers())) {
                due.is(method.getName(), page.contains("`" + method.getName() + "`") ? 1 : 0, 1);
            }
        }
    }

    private static List<String> blocks(String page) {
        List<String> blocks = new ArrayList<>();
        Matcher matcher = Pattern.compile("(?s)```java\n(.*?)```").matcher(page);
        while (matcher.find()) {
            blocks.add(matcher.group(1));
        }
        return blocks;
    }

    /** Methods stay as they are; each other block is a block of calls, "call; // answer" becomes a row of answers. */
    private static String sourceOf(List<String> blocks) {
        StringBuilder methods = new StringBuilder();
        StringBuilder calls = new StringBuilder();
        for (String block : blocks) {
            if (block.startsWith("static")) {
                methods.append(block);
            } else {
                String rows = block.replaceAll("(?m)^(\\w.*\\));\\s*// (-?\\d+)$", "all.add(new long[] {all.size(), $1, $2});");
                calls.append("{\n").append(rows).append("}\n");
            }
        }
        return "public final class " + CLASS + " {\n" + methods + "public static long[][] answers() {\n"
                + "java.util.List<long[]> all = new java.util.ArrayList<>();\n" + calls
                + "return all.toArray(new long[0][]);\n}\n}\n";
    }

    private static long[][] run(String source) throws IOException, ReflectiveOperationException {
        Path folder = Files.createTempDirectory("readme");
        Path file = folder.resolve(CLASS + ".java");
        Path compiled = folder.resolve(CLASS + ".class");
        try {
            Files.writeString(file, source);
            int code = ToolProvider.getSystemJavaCompiler().run(null, null, null, "-cp",
                    System.getProperty("java.class.path"), "-d", folder.toString(), file.toString());
            if (code != 0) {
                throw new IllegalStateException("README.md's Java does not compile");
            }
            try (URLClassLoader loader = new URLClassLoader(new URL[] {folder.toUri().toURL()})) {
                return (long[][]) loader.loadClass(CLASS).getMethod("answers").invoke(null);
            }
        } finally {
            Files.deleteIfExists(file);
            Files.deleteIfExists(compiled);
            Files.deleteIfExists(folder);
        }
    }
}
