import java.lang.reflect.Method;
import java.nio.file.Files;
import java.nio.file.Path;
import java.util.Arrays;
import java.util.List;
import java.util.regex.Matcher;
import java.util.regex.Pattern;

/** README.md: its examples answer what is written behind them, and it names every call of the document's face. */
public final class ReadmeTest {
    private static final String NEW_OBJECT = "UnixDesk desk = new UnixDesk();";
    private static final Pattern CALL =
        Pattern.compile("desk\\.(\\w+)\\(([-\\d, ]*)\\); +// (-?\\d+|true|false)(: .*)?");

    public static void main(String[] args) throws Exception {
        List<String> readme = Files.readAllLines(Path.of("README.md"));
        followExamples(readme);
        findFace(String.join("\n", readme), Files.readString(Path.of("../shared/DOC.md")));
        findTests(String.join("\n", readme));
        Check.finish();
    }

    private static void followExamples(List<String> lines) throws Exception {
        boolean inside = false;
        int examples = 0;
        UnixDesk desk = null;
        for (String line : lines) {
            if (line.startsWith("```")) {
                inside = line.equals("```java");
            } else if (inside && line.equals(NEW_OBJECT)) {
                desk = new UnixDesk();
                examples++;
            } else if (inside) {
                followCall(desk, line);
            }
        }
        Check.due("README.md has examples", true, examples > 0);
    }

    private static void followCall(UnixDesk desk, String line) throws Exception {
        Matcher call = CALL.matcher(line);
        boolean isCall = call.matches();
        Check.due("a call with its answer: " + line, true, isCall);
        if (isCall) Check.due(line, number(call.group(3)), number(answer(desk, call.group(1), call.group(2))));
    }

    private static Object answer(UnixDesk desk, String name, String numbers) throws Exception {
        Object[] arguments = numbers.isEmpty() ? new Object[0]
            : Arrays.stream(numbers.split(", *")).map(Integer::valueOf).toArray();
        Class<?>[] types = new Class<?>[arguments.length];
        Arrays.fill(types, int.class);
        Method method = UnixDesk.class.getMethod(name, types);
        return method.invoke(desk, arguments);
    }

    private static int number(Object answer) {
        String text = answer.toString();
        if (text.equals("true") || text.equals("false")) return text.equals("true") ? 1 : 0;
        return Integer.parseInt(text);
    }

    private static void findFace(String readme, String document) {
        Matcher face = Pattern.compile("(?m)^    public ([^=;]*\\));$").matcher(document);
        int members = 0;
        while (face.find()) {
            members++;
            Check.due("README.md says how to use " + face.group(1), true, readme.contains("| `" + face.group(1) + "` |"));
        }
        Check.due("how many calls the face has", 15, members);
    }

    private static void findTests(String readme) throws Exception {
        try (var files = Files.list(Path.of("src/test/java"))) {
            for (Path file : (Iterable<Path>) files::iterator) {
                String name = file.getFileName().toString().replace(".java", "");
                Check.due("README.md speaks of " + name, true, readme.contains("`" + name + "`"));
            }
        }
    }
}
