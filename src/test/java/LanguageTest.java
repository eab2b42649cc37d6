import java.lang.reflect.Modifier;
import java.nio.file.Files;
import java.nio.file.Path;
import java.util.Arrays;
import java.util.regex.Matcher;
import java.util.regex.Pattern;

/** The rules of LANGUAGE.md that can be seen in the text itself. Run from the project's folder. */
public final class LanguageTest {
    private static final String[] BANNED = {"\\bthrow\\b", "\\bthrows\\b", "\\btry\\b", "\\bcatch\\b", "\\bfinally\\b",
        "\\bsynchronized\\b", "\\bassert\\b", "->", "::", "\\w+Exact\\b", "\\bprotected\\b", "\\bpackage\\b", "\\bSystem\\.(?!arraycopy\\b)",
        "\\bArrays\\.(?!copyOf\\b|copyOfRange\\b|fill\\b)", "\\bInteger\\.(?!compare\\b|max\\b|min\\b|abs\\b|bitCount\\b)",
        "\\bnew [A-Z]\\w*\\([^)]*\\) \\{", "@\\w+", "\\bnull\\b", "\\bstatic \\{", "\\bMath\\.(?!max\\b|min\\b|abs\\b)", "\\blong\\b",
        "\"\\s*\\+", "\\+\\s*\"", "\\bwhile \\(true\\)", "\\bfor \\(;;\\)"};

    private LanguageTest() {
    }

    public static void main(String[] args) throws Exception {
        String text = Files.readString(Path.of("src/main/java/WindowRing.java"));
        Rings.due("signs 1 to 127", true, text.chars().allMatch(c -> c > 0 && c < 128));
        String code = text.replaceAll("(?s)/\\*.*?\\*/", "").replaceAll("//[^\n]*", "");
        for (String banned : BANNED) {
            Matcher matcher = Pattern.compile(banned).matcher(code);
            Rings.due("banned " + banned, false, matcher.find());
        }
        Matcher imports = Pattern.compile("import ([\\w.]+);").matcher(code);
        while (imports.find()) {
            Rings.due("import " + imports.group(1), true, imports.group(1).matches("java\\.util\\.(Arrays|ArrayList|List)"));
        }
        Matcher classes = Pattern.compile("\\b(class|enum|record|interface) \\w+").matcher(code);
        int count = 0;
        while (classes.find()) {
            count++;
        }
        Rings.due("at most twelve classes", true, count <= 12);
        Matcher statics = Pattern.compile("\\bstatic (?!final )\\w+(\\[\\])? \\w+( =|;)").matcher(code);
        Rings.due("static fields are final", false, statics.find());
        methodLengths(code);
        fields(WindowRing.class);
        for (Class<?> inner : WindowRing.class.getDeclaredClasses()) {
            fields(inner);
        }
        Rings.finish("LanguageTest");
    }

    private static void methodLengths(String code) {
        Matcher heads = Pattern.compile("\n( +)(?:[\\w\\[\\]]+ )+(\\w+)\\(([^)]*)\\) \\{").matcher(code);
        while (heads.find()) {
            int past = code.indexOf("\n" + heads.group(1) + "}", heads.end());
            long lines = code.substring(heads.end(), past).lines().count();
            Rings.due("lines of " + heads.group(2), true, lines <= 60);
            // rows are made by constructors: what calls make would count by all calls of a run
            Rings.due("new in " + heads.group(2), false,
                !heads.group(2).equals("WindowRing") && code.substring(heads.end(), past).contains("new "));
            Rings.due("parameters of " + heads.group(2), true, heads.group(3).split(",").length <= 7);
        }
    }

    private static void fields(Class<?> type) {
        long count = Arrays.stream(type.getDeclaredFields()).filter(field -> !Modifier.isStatic(field.getModifiers())).count();
        Rings.due(count + " fields of " + type, true, count <= 20);
    }
}
