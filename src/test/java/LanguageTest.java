import java.io.IOException;
import java.lang.reflect.Constructor;
import java.lang.reflect.Field;
import java.lang.reflect.Method;
import java.lang.reflect.Modifier;
import java.nio.file.Files;
import java.nio.file.Path;
import java.util.Arrays;
import java.util.Set;
import java.util.TreeSet;
import java.util.regex.Matcher;
import java.util.regex.Pattern;
import java.util.stream.Collectors;

/** The rules of ../shared/LANGUAGE.md that a machine can look at: the face, and words that must not stand. */
public final class LanguageTest {
    private static final String INT_CALLS = "type2 wipe1 undo1 fault1 cell1 person2 wear1 cross2 angle2 flood1 back1 read1 "
            + "called3 name3 same1 first1 changes1 returns4 net2 seen3 forget0 never0 lucky1 ask1 crowd3 sheet3 lose1 "
            + "lay4 get3 copy5 write2 count1";
    private static final String LONG_CALLS = "flooded5 digest0";
    private static final String CONSTANTS = "NONE-1 BAD-2 NOT-3 FULL-4";
    private static final String OVER_NUMBERS = "(?!(compare|max|min|abs|bitCount|floorDiv|floorMod|signum|sum|"
            + "highestOneBit|lowestOneBit|numberOf\\w+Zeros|rotateLeft|rotateRight|reverse|MAX_VALUE|MIN_VALUE)\\b)";
    private static final String WRONG_WORDS = "\\b(throw|throws|try|catch|finally|synchronized|assert|Object|Thread|"
            + "Runtime|Process|hashCode|volatile|native|package|protected|\\w+Exact)\\b|\\bString toString\\(|"
            + "\\bSystem\\.(?!arraycopy)|\\b(Integer|Long|Math)\\." + OVER_NUMBERS + "|->|::";
    private static final String IMPORTS = "java\\.util\\.(Arrays|ArrayList|List|Iterator)";

    private static final Dues DUES = new Dues();

    private LanguageTest() {
    }

    public static void main(String[] args) throws IOException, IllegalAccessException {
        face();
        privateNames();
        String code = Files.readString(Path.of("src/main/java/ThrownNames.java"));
        source(code.replaceAll("(?s)/\\*.*?\\*/", " ").replaceAll("//[^\n]*", " "));
        DUES.end();
    }

    private static void alike(String what, Object got, Object want) {
        DUES.due(what + " is " + got + ", due is " + want, got.equals(want) ? 1 : 0, 1);
    }

    private static Set<String> words(String spaced) {
        return new TreeSet<>(Arrays.asList(spaced.split(" ")));
    }

    private static Set<String> callsThatAnswer(Class<?> answer) {
        return Arrays.stream(ThrownNames.class.getDeclaredMethods())
                .filter(m -> !Modifier.isPrivate(m.getModifiers()) && m.getReturnType() == answer)
                .map(m -> m.getName() + m.getParameterCount()).collect(Collectors.toCollection(TreeSet::new));
    }

    private static void face() throws IllegalAccessException {
        alike("the int calls", callsThatAnswer(int.class), words(INT_CALLS));
        alike("the long calls", callsThatAnswer(long.class), words(LONG_CALLS));
        for (Method m : ThrownNames.class.getDeclaredMethods()) {
            boolean isPublic = Modifier.isPublic(m.getModifiers()) && !Modifier.isStatic(m.getModifiers());
            alike(m.getName() + " public or private", isPublic || Modifier.isPrivate(m.getModifiers()), true);
            if (isPublic) {
                alike(m.getName() + " takes ints",
                        Arrays.stream(m.getParameterTypes()).allMatch(t -> t == int.class), true);
            }
        }
        Set<String> constants = new TreeSet<>();
        for (Field f : ThrownNames.class.getDeclaredFields()) {
            if (!Modifier.isPrivate(f.getModifiers())) {
                constants.add(f.getName() + f.getInt(null));
            }
            if (Modifier.isStatic(f.getModifiers())) {
                alike(f.getName() + " final", Modifier.isFinal(f.getModifiers()), true);
            }
        }
        alike("the constants", constants, words(CONSTANTS));
        Constructor<?>[] made = ThrownNames.class.getDeclaredConstructors();
        alike("one constructor, public, of nothing",
                made.length == 1 && Modifier.isPublic(made[0].getModifiers()) && made[0].getParameterCount() == 0, true);
        alike("the class final", Modifier.isFinal(ThrownNames.class.getModifiers()), true);
    }

    private static void privateNames() {
        Set<String> face = words((INT_CALLS + " " + LONG_CALLS).replaceAll("[0-9]", ""));
        Class<?>[] inside = ThrownNames.class.getDeclaredClasses();
        alike("at most twelve classes", inside.length <= 12, true);
        for (Class<?> one : inside) {
            alike(one.getName() + " static", Modifier.isStatic(one.getModifiers()), true);
            for (Method m : one.getDeclaredMethods()) {
                alike(one.getName() + "." + m.getName() + " bears a public name", face.contains(m.getName()), false);
                alike(m.getName() + " takes at most seven", m.getParameterCount() <= 7, true);
            }
            alike(one.getName() + " has at most twenty fields", one.getDeclaredFields().length <= 20, true);
        }
        for (Method m : ThrownNames.class.getDeclaredMethods()) {
            if (Modifier.isPrivate(m.getModifiers())) {
                alike(m.getName() + " bears a public name", face.contains(m.getName()), false);
            }
        }
        long own = Arrays.stream(ThrownNames.class.getDeclaredFields())
                .filter(f -> !Modifier.isStatic(f.getModifiers())).count();
        alike("at most twenty fields", own <= 20, true);
    }

    private static void source(String code) {
        Matcher wrong = Pattern.compile(WRONG_WORDS).matcher(code.replaceAll("(case [^>\n]*|default )->", " "));
        while (wrong.find()) {
            alike("a word of the source, " + wrong.group(), "there", "not there");
        }
        Matcher imports = Pattern.compile("import ([^;]*);").matcher(code);
        while (imports.find()) {
            alike("the import " + imports.group(1), imports.group(1).matches(IMPORTS), true);
        }
        alike("a library by its whole name", Pattern.compile("(?<!import )\\bjava\\.").matcher(code).find(), false);
        int since = 0;
        String[] lines = code.split("\n", -1);
        for (int i = 0; i < lines.length; i++) {
            if (lines[i].matches("( {4}| {8})(\\w.*)?\\) \\{")) {
                since = i;
            } else if (lines[i].matches("( {4}| {8})\\}")) {
                alike("lines of what ends at line " + (i + 1), i - since < 62, true);
            }
            alike("signs of line " + (i + 1), lines[i].chars().allMatch(c -> c >= 32 && c < 127), true);
        }
    }
}
