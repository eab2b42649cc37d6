import java.lang.reflect.Field;
import java.lang.reflect.Method;
import java.lang.reflect.Modifier;
import java.nio.file.Files;
import java.nio.file.Path;
import java.util.Set;
import java.util.TreeSet;
import java.util.regex.MatchResult;
import java.util.regex.Pattern;

/** The public face: just the document's members can be seen from outside. */
public final class FaceTest {
    private static final String[] FACE = {"int feed 5", "int end 1", "int store 0", "int fault 1", "int run 1",
        "boolean handler 2", "int price 2", "int slice 1", "boolean again 1", "boolean undo 0", "boolean redo 0", "int task 2",
        "int result 1", "int window 2", "int register 2", "int value 3", "int where 2", "int plain 5", "int profile 6",
        "int depths 2", "int alone 4", "int least 2", "int suits 1", "int would 3", "int best 1", "int bestSlice 1",
        "int trap 2", "int law 0", "int image 1", "int back 1", "int about 1"};

    private FaceTest() {
    }

    public static void main(String[] args) throws Exception {
        Class<?> type = WindowRing.class;
        asTheDocumentTells();
        Rings.due("public final", Modifier.PUBLIC | Modifier.FINAL, type.getModifiers());
        Set<String> due = new TreeSet<>(java.util.List.of(FACE));
        Set<String> seen = new TreeSet<>();
        Set<String> hidden = new TreeSet<>();
        for (Method method : type.getDeclaredMethods()) {
            boolean ints = java.util.Arrays.stream(method.getParameterTypes()).allMatch(p -> p == int.class);
            String line = method.getReturnType() + " " + method.getName() + " " + method.getParameterCount();
            if (Modifier.isPrivate(method.getModifiers())) {
                hidden.add(method.getName());
            } else {
                seen.add(line + (ints && method.getModifiers() == Modifier.PUBLIC ? "" : " otherwise"));
            }
        }
        Rings.due("methods " + seen, true, seen.equals(due));
        for (String line : due) {
            Rings.due("private " + line, false, hidden.contains(line.split(" ")[1]));
        }
        for (Field field : type.getDeclaredFields()) {
            boolean constant = field.getName().equals("NONE");
            int modifiers = Modifier.PUBLIC | Modifier.STATIC | Modifier.FINAL;
            Rings.due("field " + field, true,
                constant ? field.getModifiers() == modifiers : Modifier.isPrivate(field.getModifiers()));
        }
        Rings.due("constructors", 1, type.getDeclaredConstructors().length);
        Rings.due("constructors", 1, type.getConstructors().length);
        Rings.due("its parameters", 0, type.getConstructors()[0].getParameterCount());
        Rings.due("no interfaces", 0, type.getInterfaces().length);
        for (Class<?> inner : type.getDeclaredClasses()) {
            Rings.due("inner " + inner, true, Modifier.isStatic(inner.getModifiers()) && !Modifier.isPublic(inner.getModifiers()));
            for (Method method : inner.getDeclaredMethods()) {
                boolean bears = java.util.Arrays.stream(FACE).anyMatch(l -> l.split(" ")[1].equals(method.getName()));
                Rings.due("inner " + method, false, bears);
            }
        }
        Rings.finish("FaceTest");
    }

    /** The list above is the document's, line by line. */
    private static void asTheDocumentTells() throws Exception {
        Path document = Path.of("../shared/DOC.md");
        if (!Files.isReadable(document)) {
            return;
        }
        Set<String> told = new TreeSet<>();
        Pattern line = Pattern.compile("(?m)^    public (int|boolean) (\\w+)\\((.*)\\);$");
        for (MatchResult call : line.matcher(Files.readString(document)).results().toList()) {
            String numbers = call.group(3);
            told.add(call.group(1) + " " + call.group(2) + " " + (numbers.isEmpty() ? 0 : numbers.split(",").length));
        }
        Rings.due("the document's " + told, true, told.equals(new TreeSet<>(java.util.List.of(FACE))));
    }
}
