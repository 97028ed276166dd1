import java.io.IOException;
import java.io.InputStream;
import java.io.OutputStream;
import java.nio.charset.StandardCharsets;
import java.nio.file.Files;
import java.nio.file.Path;
import java.util.ArrayList;
import java.util.Comparator;
import java.util.List;
import java.util.Set;
import java.util.concurrent.ConcurrentSkipListSet;
import java.util.concurrent.ExecutorService;
import java.util.concurrent.Executors;
import java.util.concurrent.TimeUnit;
import java.util.concurrent.atomic.AtomicInteger;
import java.util.regex.Matcher;
import java.util.regex.Pattern;
import java.util.stream.Stream;
import javax.tools.ToolProvider;

/**
 * Run by hand, not by .ci/run: breaks the class in one place at a time and tells which breaks no test of
 * a sentence finds, and which tests find none. What is left must be read: some breaks change no answer.
 */
public final class Mutants {
    private static final Path SOURCE = Path.of("src/main/java/ThrownNames.java");
    private static final String[] TESTS =
            {"RiverSentencesTest", "DaysSentencesTest", "SeenSentencesTest", "SheetSentencesTest"};
    private static final String[][] SWAPS = {{" < ", " <= "}, {" <= ", " < "}, {" > ", " >= "}, {" >= ", " > "},
        {" == ", " != "}, {" != ", " == "}, {" && ", " || "}, {" || ", " && "}, {" + ", " - "}, {" - ", " + "},
        {"!", ""}, {">>> ", ">> "}, {"(byte) ", ""}, {"(short) ", ""}, {"true", "false"}, {"false", "true"},
        {" % ", " / "}, {"NONE", "BAD"}, {"FULL", "NOT"}, {"NOT;", "NONE;"}, {"BAD;", "NONE;"},
        {"++;", ";"}, {"--;", ";"}, {"|= ", "= "}, {"+= ", "= "}, {"*= ", "+= "}};
    private static final int MOST_SECONDS = 40;

    private final String[] lines;
    private final List<String[]> mutants = new ArrayList<>();
    private final Set<String> alive = new ConcurrentSkipListSet<>(Comparator.comparingInt(
            (String one) -> Integer.parseInt(one.substring(0, one.indexOf(':')))).thenComparing(one -> one));
    private final Set<String> useful = new ConcurrentSkipListSet<>();
    private final AtomicInteger tried = new AtomicInteger();

    private Mutants(String source) {
        lines = source.split("\n", -1);
    }

    public static void main(String[] args) throws IOException, InterruptedException {
        Mutants run = new Mutants(Files.readString(SOURCE));
        for (int i = 0; i < run.lines.length; i++) {
            run.breakLine(i);
        }
        run.tryAll();
        run.report();
    }

    private void breakLine(int at) {
        String line = lines[at];
        if (line.matches("\\s*(/?\\*|//|import|public final class).*")) {
            return;
        }
        for (String[] swap : SWAPS) {
            for (int i = line.indexOf(swap[0]); i >= 0; i = line.indexOf(swap[0], i + 1)) {
                add(at, line.substring(0, i) + swap[1] + line.substring(i + swap[0].length()));
            }
        }
        Matcher number = Pattern.compile("(?<![\\w.'])\\d+(?![\\w'])").matcher(line);
        while (number.find()) {
            for (int by : new int[] {-1, 1}) {
                long other = Long.parseLong(number.group()) + by;
                add(at, line.substring(0, number.start()) + other + line.substring(number.end()));
            }
        }
        if (line.matches("\\s+if \\(.*\\) \\{")) {
            add(at, line.replaceFirst("if \\((.*)\\) \\{", "if (($1) && Math.min(0, 1) > 0) {"));
        }
        if (line.matches("\\s+[\\w.\\[\\] +-]+(\\(.*\\)|( [|+*-]?= .*)|\\+\\+|--|break|continue);")
                && !line.matches("\\s+(final|private|public|return|int|boolean|long|Water) .*")) {
            add(at, "");
        }
    }

    private void add(int at, String line) {
        String[] text = lines.clone();
        text[at] = line;
        mutants.add(new String[] {(at + 1) + ": " + lines[at].trim() + "  =>  " + line.trim(),
            String.join("\n", text)});
    }

    private void tryAll() throws InterruptedException {
        ExecutorService pool = Executors.newFixedThreadPool(Runtime.getRuntime().availableProcessors());
        for (String[] mutant : mutants) {
            pool.submit(() -> {
                try {
                    tryOne(mutant[0], mutant[1]);
                } catch (IOException | InterruptedException e) {
                    System.out.println(mutant[0] + ": " + e);
                }
            });
        }
        pool.shutdown();
        pool.awaitTermination(1, TimeUnit.DAYS);
    }

    private void tryOne(String name, String source) throws IOException, InterruptedException {
        Path place = Files.createTempDirectory("mutant");
        Path file = place.resolve("ThrownNames.java");
        Files.writeString(file, source);
        OutputStream nowhere = OutputStream.nullOutputStream();
        boolean fits = ToolProvider.getSystemJavaCompiler().run(InputStream.nullInputStream(), nowhere, nowhere,
                "-d", place.toString(), file.toString()) == 0;
        if (fits) {
            tried.incrementAndGet();
            boolean found = false;
            for (String test : TESTS) {
                found |= finds(place, test);
            }
            if (!found) {
                alive.add(name);
            }
        }
        try (Stream<Path> files = Files.list(place)) {
            for (Path one : (Iterable<Path>) files::iterator) {
                Files.delete(one);
            }
        }
        Files.delete(place);
    }

    /** A process of its own, as a broken class may never end. */
    private boolean finds(Path place, String test) throws IOException, InterruptedException {
        Path said = place.resolve(test + ".txt");
        Process run = new ProcessBuilder("java", "-XX:TieredStopAtLevel=1", "-Xshare:auto", "-cp",
                place + ":" + System.getProperty("java.class.path"), test)
                .redirectErrorStream(true).redirectOutput(said.toFile()).start();
        boolean ended = run.waitFor(MOST_SECONDS, TimeUnit.SECONDS);
        if (!ended) {
            run.destroyForcibly().waitFor();
        }
        Matcher broken = Pattern.compile("(?m)^(p\\d\\d\\w+) \\[").matcher(
                Files.readString(said, StandardCharsets.ISO_8859_1));
        while (broken.find()) {
            useful.add(broken.group(1));
        }
        return !ended || run.exitValue() != 0;
    }

    private void report() throws IOException {
        alive.forEach(System.out::println);
        for (String test : TESTS) {
            Matcher name = Pattern.compile("void (p\\d\\d\\w+)").matcher(
                    Files.readString(Path.of("src/test/java/" + test + ".java")));
            while (name.find()) {
                if (!useful.contains(name.group(1))) {
                    System.out.println("finds none: " + name.group(1));
                }
            }
        }
        System.out.println(tried + " breaks, " + alive.size() + " not found");
    }
}
