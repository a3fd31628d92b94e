import java.io.IOException;
import java.lang.reflect.Constructor;
import java.lang.reflect.Field;
import java.lang.reflect.Method;
import java.lang.reflect.Modifier;
import java.nio.file.Files;
import java.nio.file.Path;
import java.util.ArrayList;
import java.util.List;
import java.util.Set;
import java.util.TreeSet;
import java.util.regex.Matcher;
import java.util.regex.Pattern;

/** The document's face, and those rules of LANGUAGE.md that a plain reading of the text can check. */
final class FaceTest {
    private static final Path SOURCE = Path.of("src/main/java/WidowRoads.java");
    private static final Path DOCUMENT = Path.of("../shared/DOC.md");
    private static final int MOST_LINES = 60;

    private static final List<String> wrong = new ArrayList<>();

    public static void main(String[] args) throws IOException {
        face();
        rules(bare(Files.readString(SOURCE)));
        wrong.forEach(System.out::println);
        System.out.println("the face and the rules: " + wrong.size() + " wrong");
        if (!wrong.isEmpty()) {
            System.exit(1);
        }
    }

    private static void face() throws IOException {
        Set<String> promised = new TreeSet<>();
        Matcher lines = Pattern.compile("(?m)^    public (int|long) (\\w+)\\((.*)\\);$").matcher(Files.readString(DOCUMENT));
        while (lines.find()) {
            promised.add(lines.group(1) + " " + lines.group(2) + "(" + lines.group(3).replaceAll(" \\w+(,|$)", "$1") + ")");
        }
        Set<String> there = new TreeSet<>();
        for (Method method : WidowRoads.class.getDeclaredMethods()) {
            if (Modifier.isPublic(method.getModifiers())) {
                List<String> types = new ArrayList<>();
                for (Class<?> type : method.getParameterTypes()) {
                    types.add(type.getName());
                }
                there.add(method.getReturnType() + " " + method.getName() + "(" + String.join(", ", types) + ")");
            } else if (!Modifier.isPrivate(method.getModifiers())) {
                wrong.add("neither public nor private: " + method);
            }
        }
        if (promised.size() != 68 || !there.equals(promised)) {
            wrong.add("promised " + promised + " there " + there);
        }
        Constructor<?>[] constructors = WidowRoads.class.getDeclaredConstructors();
        if (constructors.length != 1 || constructors[0].getParameterCount() != 0
                || !Modifier.isPublic(constructors[0].getModifiers())) {
            wrong.add("the constructor");
        }
        for (Field field : WidowRoads.class.getDeclaredFields()) {
            if (!Modifier.isPrivate(field.getModifiers()) && !field.getName().equals("NONE")) {
                wrong.add("not private: " + field);
            }
        }
        if (WidowRoads.NONE != -1) {
            wrong.add("NONE is " + WidowRoads.NONE);
        }
        for (Class<?> inside : WidowRoads.class.getDeclaredClasses()) {
            if (!Modifier.isStatic(inside.getModifiers())) {
                wrong.add("not static: " + inside);
            }
        }
    }

    /** A text without its comments and what stands in its strings. */
    private static String bare(String text) {
        return text.replaceAll("(?s)/\\*.*?\\*/", "").replaceAll("//.*", "").replaceAll("\"[^\"\n]*\"", "\"\"");
    }

    private static void rules(String text) {
        String[] banned = {"\\bthrow", "\\btry\\b", "\\bcatch\\b", "\\bfinally\\b", "\\bsynchronized\\b", "\\bassert\\b",
            "->", "::", "\\bimport\\b", "\\bpackage\\b", "Exact\\b", "\\bdouble\\b", "\\bfloat\\b", "\"\" *\\+",
            "\\+ *\"\"", "\\bvolatile\\b", "\\bSystem\\.(?!arraycopy)", "\\bprotected\\b", "\\bwhile \\(true\\)"};
        for (String pattern : banned) {
            if (Pattern.compile(pattern).matcher(text).find()) {
                wrong.add("the text has " + pattern);
            }
        }
        Set<String> open = new TreeSet<>();
        Matcher heads = Pattern.compile("(?m)^( +)(public|private)((?: static)?) [\\w\\[\\]]+ (\\w+)\\((.*)\\) \\{$")
                .matcher(text);
        List<String> own = new ArrayList<>();
        while (heads.find()) {
            (heads.group(2).equals("public") ? open : own).add(heads.group(4));
            int end = text.indexOf("\n" + heads.group(1) + "}", heads.end());
            long lines = text.substring(heads.start(), end).lines().count();
            if (lines > MOST_LINES || heads.group(5).split(",").length > 7) {
                wrong.add("too long: " + heads.group(4));
            }
        }
        own.retainAll(open);
        if (!own.isEmpty()) {
            wrong.add("private methods with a public name: " + own);
        }
        if (Pattern.compile("\\bstatic (?!final|(boolean|int|long) \\w+\\()").matcher(text).find()) {
            wrong.add("a static that is not final");
        }
    }
}
