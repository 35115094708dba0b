import java.io.IOException;
import java.lang.reflect.Method;
import java.nio.file.Files;
import java.nio.file.Path;
import java.util.ArrayList;
import java.util.List;
import java.util.Set;
import java.util.TreeSet;
import java.util.regex.Matcher;
import java.util.regex.Pattern;

/** What README.md says is so: the answers behind its calls, the command for the tests, the tests that it lists. */
public final class ReadmeTest {
    private static final Path PAGE = Path.of("README.md");
    private static final Pattern CALL = Pattern.compile("(?m)^ {4}x\\.(\\w+)\\(([^)]*(?:\\(\\))?)\\); +// (\\S+)");
    private static final Pattern QUOTED = Pattern.compile("\"([^\"]*)\"");
    private static final Pattern LISTED = Pattern.compile("(?m)^- `(\\w+)`:");

    private final Due due = new Due();

    public static void main(String[] args) throws IOException {
        ReadmeTest test = new ReadmeTest();
        String page = Files.readString(PAGE);
        test.calls(page, textOf(page));
        test.command(page);
        test.listed(page);
        test.due.end("ReadmeTest");
    }

    /** The first statement that tells a text, its pieces joined. */
    private static String textOf(String page) {
        int from = page.indexOf("String text = ");
        Matcher pieces = QUOTED.matcher(page.substring(from, page.indexOf("\";", from) + 1));
        StringBuilder text = new StringBuilder();
        while (pieces.find()) {
            text.append(pieces.group(1));
        }
        return text.toString();
    }

    private void calls(String page, String text) {
        KingHears x = new KingHears();
        Due.feed(x, text);
        int seen = 0;
        Matcher matcher = CALL.matcher(page);
        while (matcher.find()) {
            String arguments = matcher.group(2).replace("text.length()", Integer.toString(text.length()));
            String got = answer(x, matcher.group(1), arguments);
            due.same(matcher.group() + " (" + got + ")", got.equals(matcher.group(3)), true);
            seen++;
        }
        due.same("whether the page has calls", seen >= 20, true);
        due.same("lines that call and tell an answer", seen, page.split("\n {4}x\\.[^\n]*//", -1).length - 1);
    }

    private static String answer(KingHears x, String name, String arguments) {
        for (Method method : Side.calls()) {
            if (method.getName().equals(name)) {
                return new Side(x).answer(method, valuesOf(method, arguments));
            }
        }
        return "there is no such call";
    }

    private static Object[] valuesOf(Method method, String arguments) {
        List<Object> values = new ArrayList<>();
        String[] told = arguments.isEmpty() ? new String[0] : arguments.split(", *");
        for (int i = 0; i < told.length; i++) {
            boolean truth = method.getParameterTypes()[i] == boolean.class;
            values.add(truth ? (Object) Boolean.valueOf(told[i]) : (Object) Integer.valueOf(told[i]));
        }
        return values.toArray();
    }

    private void command(String page) {
        int from = page.indexOf("## Tests");
        String[] lines = page.substring(Math.max(from, 0)).split("\n");
        due.same("whether the page names .ci/run", lines.length > 2 && lines[2].trim().equals(".ci/run"), true);
        due.same("whether it can be run", Files.isExecutable(Path.of(".ci/run")), true);
    }

    private void listed(String page) throws IOException {
        Set<String> want = new TreeSet<>();
        try (var files = Files.newDirectoryStream(Path.of("src/test/java"), "*Test.java")) {
            for (Path file : files) {
                want.add(file.getFileName().toString().replace(".java", ""));
            }
        }
        Set<String> got = new TreeSet<>();
        Matcher matcher = LISTED.matcher(page);
        while (matcher.find()) {
            got.add(matcher.group(1));
        }
        due.same("whether the tests listed are those there are: " + got + " " + want, got.equals(want), true);
    }
}
