import java.io.IOException;
import java.lang.reflect.Constructor;
import java.lang.reflect.Field;
import java.lang.reflect.Method;
import java.lang.reflect.Modifier;
import java.nio.file.Files;
import java.nio.file.Path;
import java.util.Arrays;
import java.util.HashSet;
import java.util.List;
import java.util.Set;
import java.util.TreeSet;
import java.util.regex.Matcher;
import java.util.regex.Pattern;

/** The public face is the document's and no more, and the file keeps to what LANGUAGE.md lets be seen so. */
public final class FaceTest {
    private static final Path SOURCE = Path.of("src/main/java/KingHears.java");
    private static final Path DOCUMENT = Path.of("../shared/DOC.md");
    private static final Pattern DECLARED =
        Pattern.compile("public (int|long|boolean) (\\w+)\\(([^)]*)\\)( throws NoSuchElementException)?;");

    private final Due due = new Due();

    public static void main(String[] args) throws IOException {
        FaceTest test = new FaceTest();
        test.face(Files.readString(DOCUMENT));
        test.members();
        test.source(Files.readString(SOURCE));
        test.due.end("FaceTest");
    }

    /** Every method as the document's interface has it, without its parameters' names. */
    private void face(String document) {
        Set<String> want = new TreeSet<>();
        Matcher matcher = DECLARED.matcher(document.substring(0, document.indexOf("## Terms")));
        while (matcher.find()) {
            String types = matcher.group(3).replaceAll(" \\w+(,|$)", "$1").replace(" ", "");
            want.add(matcher.group(1) + " " + matcher.group(2) + "(" + types + ")" + (matcher.group(4) != null));
        }
        due.same("the document's methods", want.size(), 56);
        Set<String> got = new TreeSet<>();
        for (Method method : Side.calls()) {
            String types = String.join(",",
                Arrays.stream(method.getParameterTypes()).map(Class::getName).toArray(String[]::new));
            boolean says = method.getExceptionTypes().length > 0;
            got.add(method.getReturnType().getName() + " " + method.getName() + "(" + types + ")" + says);
        }
        for (String each : want) {
            due.same("whether there is " + each, got.contains(each), true);
        }
        for (String each : got) {
            due.same("whether the document has " + each, want.contains(each), true);
        }
    }

    private void members() {
        Class<KingHears> face = KingHears.class;
        due.same("whether the class is final", Modifier.isFinal(face.getModifiers()), true);
        Constructor<?>[] constructors = face.getDeclaredConstructors();
        due.same("constructors", constructors.length, 1);
        due.same("whether it is public", Modifier.isPublic(constructors[0].getModifiers()), true);
        Set<String> names = new HashSet<>();
        for (Method method : Side.calls()) {
            names.add(method.getName());
        }
        noneBut(face, names);
        due.same("whether the classes are few", face.getDeclaredClasses().length <= 11, true);
        for (Class<?> inside : face.getDeclaredClasses()) {
            due.same(inside + " static", Modifier.isStatic(inside.getModifiers()), true);
            due.same(inside + " public", Modifier.isPublic(inside.getModifiers()), false);
            noneBut(inside, names);
        }
    }

    private void noneBut(Class<?> type, Set<String> publicNames) {
        boolean face = type == KingHears.class;
        int fields = 0;
        for (Field field : type.getDeclaredFields()) {
            int modifiers = field.getModifiers();
            fields += Modifier.isStatic(modifiers) ? 0 : 1;
            due.same(field + " static and not final",
                Modifier.isStatic(modifiers) && !Modifier.isFinal(modifiers), false);
            boolean open = !Modifier.isPrivate(modifiers) && !field.getName().equals("NONE");
            due.same(field + " seen from outside", face && open, false);
        }
        due.same(type + " has few fields", fields <= 20, true);
        for (Method method : type.getDeclaredMethods()) {
            boolean open = Modifier.isPublic(method.getModifiers());
            boolean hidden = Modifier.isPrivate(method.getModifiers());
            due.same(method + " is public or private", !face || open || hidden, true);
            due.same(method + " bears a public name", !open && publicNames.contains(method.getName()), false);
            due.same(method + " takes few parameters", method.getParameterCount() <= 7, true);
        }
    }

    private void source(String text) {
        String code = text.replaceAll("(?s)/\\*.*?\\*/", "").replaceAll("//[^\n]*", "").replaceAll("\"[^\"\n]*\"", "\"\"");
        for (String banned : List.of("->", "::", "Exact", "synchronized", "assert", "finally", "catch", "try ", "double",
                "float", "instanceof", "package ", "static {", "var ", "String.", "Object", "List", "Integer.valueOf")) {
            due.same("whether there is " + banned, code.contains(banned), false);
        }
        for (String line : code.split("\n")) {
            boolean made = line.contains("new ") && !line.contains("throw new ");
            boolean inField = line.matches("\\s+(private )?(final )?[\\w\\[\\]]+ \\w+ = new .*");
            boolean inConstructor = line.contains("images[i] = new Stand()");
            due.same("whether it is made in a constructor: " + line, !made || inField || inConstructor, true);
            due.same("whether the import is fine: " + line,
                !line.startsWith("import ") || line.equals("import java.util.NoSuchElementException;"), true);
        }
        due.same("whether signs are plain", text.chars().allMatch(c -> c < 128), true);
        methodsAreShort(code);
    }

    private void methodsAreShort(String code) {
        int begun = -1;
        String[] lines = code.split("\n");
        for (int i = 0; i < lines.length; i++) {
            if (lines[i].matches("( {4}| {8})[\\w ]+(\\[\\])? \\w+\\(.*\\{")) {
                begun = i;
            }
            if (begun >= 0 && lines[i].matches("( {4}| {8})\\}")) {
                due.same("whether this is short: " + lines[begun], i - begun <= 60, true);
                begun = -1;
            }
        }
    }
}
