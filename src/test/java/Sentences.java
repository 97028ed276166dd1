import java.io.IOException;
import java.lang.annotation.Retention;
import java.lang.annotation.RetentionPolicy;
import java.lang.reflect.InvocationTargetException;
import java.lang.reflect.Method;
import java.nio.file.Files;
import java.nio.file.Path;
import java.util.ArrayList;
import java.util.Arrays;
import java.util.Comparator;
import java.util.List;
import java.util.Map;
import java.util.TreeMap;

/**
 * Single sentences of the document, each with a test of its own: a method p, the promise's number and
 * what it looks at, with the words it holds the class to. Whatever is refused in a test must leave the
 * object as one that was never asked it: the two are compared when the scene ends.
 */
abstract class Sentences {
    static final int NONE = -1, BAD = -2, NOT = -3, FULL = -4;
    static final int NULL = -11, INDEX = -12, CAST = -13, STORE = -14, SIZE = -15;
    static final int LEAST = Integer.MIN_VALUE, MOST = Integer.MAX_VALUE;
    static final String EIGHT = "a10.3;b2010;c3021;d4032;e5043;f6054;g7065;h8076";

    /** What calls later than these answer is free, so no test may lean on them. */
    private static final int MOST_CALLS = 512;

    @Retention(RetentionPolicy.RUNTIME)
    @interface Says {
        String value();
    }

    ThrownNames x = new ThrownNames();
    private final List<Object[]> kept = new ArrayList<>();
    private final List<String> wrong = new ArrayList<>();
    private int calls = 0;
    private int refused = 0;
    private int latestFinding = 0;
    private String scene = "";

    static void runAll(Class<? extends Sentences> tests, int from, int to) throws IOException {
        String document = plain(Files.readString(Path.of("../shared/DOC.md")));
        int broken = 0;
        int[] sentences = new int[to + 1];
        for (Map.Entry<Method, List<String>> one : wrongsOf(tests).entrySet()) {
            String name = one.getKey().getName();
            String says = one.getKey().getAnnotation(Says.class).value();
            sentences[Integer.parseInt(name.substring(1, 3))]++;
            if (!document.contains(plain(says))) {
                System.out.println("(" + name + ": the document no longer says: " + says + ")");
            }
            one.getValue().forEach(wrong -> System.out.println(name + " [" + says + "]: " + wrong));
            broken += one.getValue().isEmpty() ? 0 : 1;
        }
        for (int promise = from; promise <= to; promise++) {
            if (sentences[promise] == 0) {
                broken++;
                System.out.println("promise " + promise + " has no test");
            }
        }
        System.out.println(Arrays.stream(sentences).sum() + " sentences, " + broken + " broken");
        if (broken != 0) {
            System.exit(1);
        }
    }

    private static String plain(String text) {
        return text.replaceAll("\\s+", " ");
    }

    /** Each test, by its name's order, with what is wrong by it. */
    static Map<Method, List<String>> wrongsOf(Class<? extends Sentences> tests) {
        Map<Method, List<String>> all = new TreeMap<>(Comparator.comparing(Method::getName));
        for (Method method : tests.getDeclaredMethods()) {
            if (method.isAnnotationPresent(Says.class)) {
                all.put(method, wrongOf(tests, method));
            }
        }
        return all;
    }

    private static List<String> wrongOf(Class<? extends Sentences> tests, Method method) {
        List<String> wrong = new ArrayList<>();
        try {
            Sentences test = tests.getDeclaredConstructor().newInstance();
            wrong = test.wrong;
            method.invoke(test);
            test.endScene();
        } catch (InvocationTargetException e) {
            wrong.add("threw " + e.getCause());
        } catch (ReflectiveOperationException | RuntimeException | StackOverflowError e) {
            wrong.add("threw " + e);
        }
        return wrong;
    }

    /** A new object with these texts. */
    final void begin(String river, String people) {
        endScene();
        x = new ThrownNames();
        kept.clear();
        calls = 0;
        refused = 0;
        latestFinding = 0;
        scene = "'" + river + "' '" + people + "' ";
        type(0, river);
        type(1, people);
    }

    final int callsLeft() {
        return MOST_CALLS - calls;
    }

    final void type(int text, String bytes) {
        for (int i = 0; i < bytes.length(); i++) {
            kept.add(new Object[] {"type", new int[] {text, bytes.charAt(i)}});
            calls++;
            x.type(text, bytes.charAt(i));
        }
    }

    /** A call whose answer is of no matter here. */
    final long make(String call, int... a) {
        kept.add(new Object[] {call, a});
        calls++;
        return Calls.of(x, call, a);
    }

    final void due(long want, String call, int... a) {
        compare(call, a, make(call, a), want);
    }

    /** A call that must be refused; it is not kept, so that the scene's end can tell what it changed. */
    final void refuse(long want, String call, int... a) {
        int finding = want <= NULL && want >= SIZE ? (int) (-10 - want) : latestFinding;
        refuseWithFinding(want, finding, call, a);
    }

    /** As get() does: the answer doesn't tell which FINDING it was. */
    final void refuseWithFinding(long want, int finding, String call, int... a) {
        refused++;
        calls += 2;
        latestFinding = finding;
        compare(call, a, Calls.of(x, call, a), want);
        compare("count, behind " + call + Arrays.toString(a), new int[] {8}, x.count(8), finding);
    }

    /** One argument beyond the least and the most that is told, on either side, near and far. */
    final void beyond(long want, String call, int place, int least, int most, int... a) {
        for (int v : new int[] {least - 1, most + 1, least - 256, least + 256, least + 65536, LEAST, MOST}) {
            if (v < least || v > most) {
                int[] b = a.clone();
                b[place] = v;
                refuse(want, call, b);
            }
        }
    }

    final void note(String what, long got, long want) {
        if (got != want) {
            wrong.add(scene + what + " is " + got + ", due is " + want);
        }
    }

    private void compare(String call, int[] a, long got, long want) {
        if (got != want) {
            wrong.add(scene + call + Arrays.toString(a) + " answered " + got + ", due is " + want);
        }
    }

    private void endScene() {
        List<Long> found = new ArrayList<>();
        if (refused > 0) {
            ThrownNames twin = new ThrownNames();
            for (Object[] call : kept) {
                Calls.of(twin, (String) call[0], (int[]) call[1]);
            }
            List<Long> due = new ArrayList<>();
            probe(twin, due);
            probe(x, found);
            note("what is left behind the refused calls, alike", found.equals(due) ? 1 : 0, 1);
        }
        note("a scene within the calls of one object", calls + found.size() <= MOST_CALLS ? 1 : 0, 1);
        refused = 0;
    }

    /** Answers that tell apart two objects that differ; the object is of no use behind it. */
    private static void probe(ThrownNames x, List<Long> found) {
        for (int what = 0; what < 8; what++) {
            found.add((long) x.count(what));
        }
        found.add(x.digest());
        for (int s = 0; s < 4; s++) {
            for (int k = 0; k < 15; k++) {
                found.add((long) x.get(s, k % 3, k / 3));
            }
            found.add((long) x.lose(s));
        }
        found.add((long) x.wear(1));
        found.add(x.digest());
        found.add((long) x.wipe(0));
        found.add((long) x.wipe(1));
        for (char b : "m=abcd~efgh~ijkl.nop".toCharArray()) {
            found.add((long) x.type(0, b));
        }
        for (char b : EIGHT.toCharArray()) {
            found.add((long) x.type(1, b));
        }
        for (int k = 0; k < 17; k++) {
            found.add(x.digest());
            found.add((long) x.back(0));
        }
        for (int k = 0; k < 9; k++) {
            found.add(x.digest());
            found.add((long) x.back(k < 7 ? 2 : 1));
            found.add((long) x.back(1));
        }
        found.add((long) x.forget());
        found.add(x.digest());
    }

    /** As much as may be told, with room for no more of anything. */
    final void beginFull() {
        begin("m=cdefgh~ijkl.nop~qr", EIGHT);
        for (int k = 0; k < 16; k++) {
            make("cross", k, k % 8);
        }
        for (int k = 0; k < 8; k++) {
            make("angle", 2 * k, 19 - 2 * k);
        }
        for (int k = 0; k < 6; k++) {
            make("flood", 3 * k + 1);
        }
        for (int k = 0; k < 8; k++) {
            make("seen", k, k, (int) make("called", k, k, 1));
        }
        make("sheet", 1, 1, 4);
        make("lay", 1, 1, 2, 7);
    }

    final void lay(int s, int form, int... items) {
        make("sheet", s, form, items.length);
        for (int i = 0; i < items.length; i++) {
            make("lay", s, form, i, items[i]);
        }
    }

    final void items(int s, int form, int... want) {
        for (int i = 0; i < want.length; i++) {
            due(want[i], "get", s, form, i);
        }
    }
}
