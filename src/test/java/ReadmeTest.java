import java.io.IOException;
import java.lang.reflect.Method;
import java.lang.reflect.Modifier;
import java.nio.file.Files;
import java.nio.file.Path;
import java.util.Arrays;
import java.util.List;
import java.util.Set;
import java.util.TreeSet;
import java.util.regex.Matcher;
import java.util.regex.Pattern;
import java.util.stream.Collectors;
import java.util.stream.Stream;

/** What README.md shows of calls and answers is what the class answers; no call and no test is left out. */
public final class ReadmeTest {
    private static final String NEW = "ThrownNames x = new ThrownNames();";
    private static final Pattern TYPED = Pattern.compile(
            "for \\(char b : \"([^\"]*)\"\\.toCharArray\\(\\)\\) x\\.type\\(([01]), b\\); +// (-?\\d+)\\b.*");
    private static final Pattern CALL = Pattern.compile("x\\.(\\w+)\\(([^()]*)\\); +// (-?\\d+)\\b.*");
    private static final int MOST_CALLS = 512;

    private static final Dues DUES = new Dues();

    private final Set<String> shown = new TreeSet<>();
    private ThrownNames x = null;
    private int calls = 0;

    private ReadmeTest() {
    }

    public static void main(String[] args) throws IOException {
        String readme = Files.readString(Path.of("README.md"));
        ReadmeTest test = new ReadmeTest();
        Matcher block = Pattern.compile("(?s)```java\n(.*?)```").matcher(readme);
        while (block.find()) {
            block.group(1).lines().forEach(test::look);
        }
        holds("calls of one object, at most 512", test.calls <= MOST_CALLS);
        for (Method method : ThrownNames.class.getDeclaredMethods()) {
            if (Modifier.isPublic(method.getModifiers())) {
                holds("README.md shows " + method.getName(), test.shown.contains(method.getName()));
            }
        }
        testsAreTold(readme);
        filesAreThere(readme);
        DUES.end();
    }

    private static void holds(String what, boolean so) {
        DUES.due(what, so ? 1 : 0, 1);
    }

    private void look(String line) {
        Matcher typed = TYPED.matcher(line);
        Matcher call = CALL.matcher(line);
        if (line.equals(NEW)) {
            x = new ThrownNames();
        } else if (typed.matches()) {
            long answer = 0;
            for (char b : typed.group(1).toCharArray()) {
                answer = answerOf("type", Integer.parseInt(typed.group(2)), b);
            }
            DUES.due(line, answer, Long.parseLong(typed.group(3)));
        } else if (call.matches()) {
            DUES.due(line, answerOf(call.group(1), argumentsOf(call.group(2))), Long.parseLong(call.group(3)));
        } else {
            holds("a call with its answer: " + line, false);
        }
    }

    private long answerOf(String call, int... a) {
        shown.add(call);
        calls++;
        return Calls.of(x, call, a);
    }

    private static int[] argumentsOf(String text) {
        String plain = text.replace("ThrownNames.NONE", Integer.toString(ThrownNames.NONE));
        return plain.isEmpty() ? new int[0] : Arrays.stream(plain.split(", ")).mapToInt(Integer::parseInt).toArray();
    }

    private static void testsAreTold(String readme) throws IOException {
        try (Stream<Path> files = Files.list(Path.of("src/test/java"))) {
            List<String> names = files.map(f -> f.getFileName().toString().replace(".java", ""))
                    .filter(n -> n.endsWith("Test")).collect(Collectors.toList());
            names.forEach(n -> holds("README.md tells of " + n, readme.contains("`" + n + "`")));
        }
    }

    private static void filesAreThere(String readme) {
        Matcher path = Pattern.compile("(?<![\\w./])(src/[\\w/]+\\.java|\\.ci/run|\\.\\./shared[\\w./]*\\w)").matcher(readme);
        while (path.find()) {
            holds(path.group() + " is there", Files.exists(Path.of(path.group())));
        }
    }
}
