import java.math.BigInteger;
import java.util.ArrayList;
import java.util.HashSet;
import java.util.List;
import java.util.Set;

/**
 * The document once more, as plainly as it can be told and by other means than the class: every CELL a
 * list, every question lived from DAY 0 on. Tests hold the class against it.
 */
final class PlainNames {
    private static final int NONE = -1, BAD = -2, NOT = -3, FULL = -4;
    private static final int NULL = -11, INDEX = -12, CAST = -13, STORE = -14, SIZE = -15;

    private final StringBuilder[] texts = {new StringBuilder(), new StringBuilder()};
    private final List<int[]> crossings = new ArrayList<>();
    private final List<int[]> catches = new ArrayList<>();
    private final List<Integer> floods = new ArrayList<>();
    private final List<int[]> seen = new ArrayList<>();
    private final int[][] rows = new int[4][];
    private final int[] forms = new int[4];
    private int wear = 8;
    private int found = 0;

    /** One way in which DAYS are lived; the lists may be other than those told. */
    private final class Life {
        final List<int[]> crosses = new ArrayList<>(crossings);
        final List<int[]> angles = new ArrayList<>(catches);
        final Set<Integer> floodDays = new HashSet<>(floods);
        final List<Integer> changing = new ArrayList<>();
        final String river = river();
        final String[] folk = folk();
        final int[] luck = new int[8];
        final List<List<Name>> cells = new ArrayList<>();
        final List<Name> names = new ArrayList<>();
        final Name[] has = new Name[folk.length];

        Life() {
            for (int p = 0; p < folk.length; p++) {
                luck[p] = folk[p].charAt(4) - '0';
            }
        }

        Life until(int day) {
            for (int c = 0; c < river.length(); c++) {
                cells.add(new ArrayList<>());
                if (Character.isLetter(river.charAt(c))) {
                    Name x = new Name(names.size(), river.charAt(c), 0, NONE);
                    names.add(x);
                    cells.get(c).add(x);
                }
            }
            for (int p = 0; p < folk.length; p++) {
                Name x = new Name(names.size(), folk[p].charAt(0), Integer.parseInt(folk[p].substring(1, 3)), p);
                names.add(x);
                has[p] = x;
            }
            for (int d = 0; d <= day; d++) {
                live(d);
            }
            return this;
        }

        void live(int d) {
            for (int k = 0; k < crosses.size(); k++) {
                if (crosses.get(k) != null && crosses.get(k)[0] == d && crosses.get(k)[1] < has.length) {
                    int p = crosses.get(k)[1];
                    if (!cells.isEmpty() && !cells.get(0).isEmpty()) {
                        Name up = cells.get(0).remove(luck[p] % cells.get(0).size());
                        cells.get(0).add(has[p]);
                        has[p] = up;
                        changing.add(k);
                    }
                }
            }
            for (int[] a : angles) {
                if (a[0] == d && a[1] < cells.size() && !cells.get(a[1]).isEmpty()) {
                    cells.get(a[1]).remove(0).gone = 21;
                }
            }
            drift(d);
            if (floodDays.contains(d)) {
                drift(d);
            }
        }

        void drift(int d) {
            for (int c = river.length() - 1; c >= 0; c--) {
                boolean last = c == river.length() - 1;
                if (river.charAt(c) == '~' && d % 2 == 1 || !last && river.charAt(c + 1) == '=') {
                    continue;
                }
                for (Name x : cells.get(c)) {
                    x.worn++;
                    if (x.worn == wear) {
                        x.becomeVowel();
                    }
                    if (last) {
                        x.gone = 20;
                    } else {
                        cells.get(c + 1).add(x);
                    }
                }
                cells.get(c).clear();
            }
        }

        int where(Name x) {
            for (int c = 0; c < cells.size(); c++) {
                if (cells.get(c).contains(x)) {
                    return c;
                }
            }
            for (int p = 0; p < has.length; p++) {
                if (has[p] == x) {
                    return 22 + p;
                }
            }
            return x.gone;
        }

        int letter(int p) {
            return has[p].letter - 'a';
        }

        int sold() {
            return names.stream().filter(x -> where(x) == 21).mapToInt(x -> x.owes).sum();
        }

        int spouse(int p) {
            if (has[p].first == NONE) {
                return NONE;
            }
            char to = folk[has[p].first].charAt(3);
            for (int q = 0; q < has.length; q++) {
                if (to == '0' + has[q].first && has[q].first != NONE) {
                    return q;
                }
            }
            return NONE;
        }
    }

    private static final class Name {
        final int number;
        final int owes;
        final int first;
        char letter;
        int worn = 0;
        int gone = 99;

        Name(int number, char letter, int owes, int first) {
            this.number = number;
            this.letter = letter;
            this.owes = owes;
            this.first = first;
        }

        void becomeVowel() {
            while ("aeiou".indexOf(letter) < 0) {
                letter--;
            }
        }
    }

    private String river() {
        return fault(0) == NONE ? texts[0].toString() : "";
    }

    private String[] folk() {
        return fault(1) == NONE && texts[1].length() > 0 ? texts[1].toString().split(";") : new String[0];
    }

    private int names() {
        return (int) river().chars().filter(Character::isLetter).count() + folk().length;
    }

    private static boolean in(int v, int from, int to) {
        return v >= from && v <= to;
    }

    private boolean isFolk(int p) {
        return in(p, 0, folk().length - 1);
    }

    private int find(int answer) {
        found = -10 - answer;
        return answer;
    }

    int type(int text, int b) {
        if (!in(text, 0, 1) || !in(b, 0, 255)) {
            return BAD;
        }
        if (texts[text].length() == (text == 0 ? 20 : 47)) {
            return FULL;
        }
        return texts[text].append((char) b).length();
    }

    int wipe(int text) {
        if (!in(text, 0, 1)) {
            return BAD;
        }
        int had = texts[text].length();
        texts[text].setLength(0);
        return had;
    }

    int undo(int text) {
        if (!in(text, 0, 1)) {
            return BAD;
        }
        if (texts[text].length() == 0) {
            return NOT;
        }
        texts[text].setLength(texts[text].length() - 1);
        return texts[text].length();
    }

    /** A text is well up to a byte if some well text begins so. */
    int fault(int text) {
        if (!in(text, 0, 1)) {
            return BAD;
        }
        String t = texts[text].toString();
        String person = "[a-z][0-9][0-9][0-7.][0-9]";
        String whole = text == 0 ? "[a-z.~=]*" : "(" + person + "(;" + person + "){0,7})?";
        if (t.matches(whole)) {
            return NONE;
        }
        String filler = "a00.0";
        for (int n = t.length(); n > 0; n--) {
            String begun = t.substring(0, n);
            String ended = text == 0 ? begun : begun + (n % 6 == 0 ? filler : filler.substring(Math.min(5, n % 6)));
            if (ended.matches(whole)) {
                return n;
            }
        }
        return 0;
    }

    int cell(int cell) {
        return !in(cell, 0, 19) ? BAD : cell >= river().length() ? NONE
                : Math.min(3, (".~=" + river().charAt(cell)).indexOf(river().charAt(cell)));
    }

    int person(int person, int what) {
        if (!isFolk(person) || !in(what, 0, 3)) {
            return BAD;
        }
        String one = folk()[person];
        int[] all = {one.charAt(0) - 'a', Integer.parseInt(one.substring(1, 3)),
            "01234567".indexOf(one.charAt(3)), one.charAt(4) - '0'};
        return all[what];
    }

    int wear(int v) {
        if (!in(v, 1, 20)) {
            return BAD;
        }
        int was = wear;
        wear = v;
        return was;
    }

    private static int more(List<int[]> list, int most, int... told) {
        if (list.size() == most) {
            return FULL;
        }
        list.add(told);
        return list.size();
    }

    int cross(int day, int person) {
        return in(day, 0, 19) && in(person, 0, 7) ? more(crossings, 16, day, person) : BAD;
    }

    int angle(int day, int cell) {
        return in(day, 0, 19) && in(cell, 0, 19) ? more(catches, 8, day, cell) : BAD;
    }

    int flood(int day) {
        if (!in(day, 0, 19)) {
            return BAD;
        }
        if (floods.size() == 6) {
            return FULL;
        }
        floods.add(day);
        return floods.size();
    }

    int back(int what) {
        if (!in(what, 0, 2)) {
            return BAD;
        }
        List<?> list = what == 0 ? crossings : what == 1 ? catches : floods;
        if (list.isEmpty()) {
            return NOT;
        }
        list.remove(list.size() - 1);
        return list.size();
    }

    int read(int s) {
        if (!in(s, 0, 3)) {
            return BAD;
        }
        if (rows[s] == null) {
            return find(NULL);
        }
        int k = 0;
        while (2 * k + 1 < rows[s].length && cross(rows[s][2 * k], rows[s][2 * k + 1]) > 0) {
            k++;
        }
        return k;
    }

    int called(int day, int person, int what) {
        if (!in(day, 0, 19) || !isFolk(person) || !in(what, 0, 3)) {
            return BAD;
        }
        Life life = new Life().until(day);
        Name x = life.has[person];
        return new int[] {x.number, life.letter(person), x.owes, life.spouse(person)}[what];
    }

    int name(int day, int name, int what) {
        if (!in(day, 0, 19) || !in(name, 0, names() - 1) || !in(what, 0, 2)) {
            return BAD;
        }
        Life life = new Life().until(day);
        Name x = life.names.get(name);
        return new int[] {life.where(x), x.worn, x.letter - 'a'}[what];
    }

    private List<Integer> pairs(int day) {
        Life life = new Life().until(day);
        List<Integer> pairs = new ArrayList<>();
        for (int p = 0; p < life.has.length; p++) {
            for (int q = p + 1; q < life.has.length; q++) {
                if (life.letter(p) == life.letter(q)) {
                    pairs.add(8 * p + q);
                }
            }
        }
        return pairs;
    }

    int same(int day) {
        return in(day, 0, 19) ? pairs(day).size() : BAD;
    }

    int first(int what) {
        if (!in(what, 0, 1)) {
            return BAD;
        }
        for (int d = 0; d < 20; d++) {
            if (!pairs(d).isEmpty()) {
                return what == 0 ? d : pairs(d).get(0);
            }
        }
        return NONE;
    }

    int changes(int crossing) {
        if (!in(crossing, 0, crossings.size() - 1)) {
            return BAD;
        }
        return new Life().until(19).changing.contains(crossing) ? 1 : 0;
    }

    private boolean brings(int person, int letter, int day, int... on) {
        Life life = new Life();
        for (int d : on) {
            life.crosses.add(new int[] {d, person});
        }
        return life.until(day).letter(person) == letter;
    }

    private int[] backRow(int person, int letter, int day) {
        if (brings(person, letter, day)) {
            return new int[0];
        }
        for (int d = 0; d <= day; d++) {
            if (brings(person, letter, day, d)) {
                return new int[] {d};
            }
        }
        for (int d = 0; d <= day; d++) {
            for (int e = d + 1; e <= day; e++) {
                if (brings(person, letter, day, d, e)) {
                    return new int[] {d, e};
                }
            }
        }
        return null;
    }

    int returns(int person, int letter, int day, int i) {
        if (!isFolk(person) || !in(letter, 0, 25) || !in(day, 0, 19) || !in(i, -1, 1)) {
            return BAD;
        }
        int[] row = backRow(person, letter, day);
        return row == null ? NONE : i == NONE ? row.length : i < row.length ? row[i] : NONE;
    }

    int net(int day, int i) {
        if (!in(day, 0, 19) || !in(i, -1, 1)) {
            return BAD;
        }
        int[] best = {NONE, NONE, NONE};
        for (int a = 0; a < river().length(); a++) {
            for (int b = a; b < river().length(); b++) {
                Life life = new Life();
                life.angles.add(new int[] {day, a});
                life.angles.add(new int[] {day, b});
                int sold = life.until(19).sold();
                if (sold > best[0]) {
                    best = new int[] {sold, a, b};
                }
            }
        }
        return best[i + 1];
    }

    int seen(int day, int person, int letter) {
        return in(day, 0, 19) && in(person, 0, 7) && in(letter, 0, 25) ? more(seen, 8, day, person, letter) : BAD;
    }

    int forget() {
        int had = seen.size();
        seen.clear();
        return had;
    }

    private Life without(int crossing) {
        Life life = new Life();
        life.crosses.set(crossing, null);
        return life;
    }

    private boolean agrees(int withoutCrossing, int person, int luck) {
        for (int[] one : seen) {
            Life life = withoutCrossing == NONE ? new Life() : without(withoutCrossing);
            if (person != NONE) {
                life.luck[person] = luck;
            }
            life.until(one[0]);
            if (one[1] >= life.has.length || life.letter(one[1]) != one[2]) {
                return false;
            }
        }
        return true;
    }

    int never() {
        int bits = 0;
        for (int k = 0; k < crossings.size(); k++) {
            bits += agrees(k, NONE, NONE) ? 1 << k : 0;
        }
        return bits;
    }

    int lucky(int person) {
        if (!isFolk(person)) {
            return BAD;
        }
        int bits = 0;
        for (int v = 0; v < 10; v++) {
            bits += agrees(NONE, person, v) ? 1 << v : 0;
        }
        return bits;
    }

    int ask(int day) {
        if (!in(day, 0, 19)) {
            return BAD;
        }
        int never = never();
        int best = NONE;
        int least = 99;
        for (int p = 0; p < folk().length; p++) {
            int[] number = new int[26];
            for (int k = 0; k < crossings.size(); k++) {
                if ((never >> k) % 2 != 0) {
                    number[without(k).until(day).letter(p)]++;
                }
            }
            int greatest = 0;
            for (int n : number) {
                greatest = Math.max(greatest, n);
            }
            if (greatest < least) {
                least = greatest;
                best = p;
            }
        }
        return best;
    }

    long flooded(int c, int day, int person, int letter, int what) {
        if (!in(c, 0, 16) || !in(day, 0, 9) || !isFolk(person) || !in(letter, 0, 25) || !in(what, 0, 1)) {
            return Long.MIN_VALUE + 2;
        }
        BigInteger above = BigInteger.ZERO;
        for (int set = 0; set < 1 << day + 1; set++) {
            Life life = new Life();
            life.floodDays.clear();
            BigInteger weight = BigInteger.ONE;
            for (int d = 0; d <= day; d++) {
                boolean flood = (set >> d) % 2 != 0;
                weight = weight.multiply(BigInteger.valueOf(flood ? c : 16 - c));
                if (flood) {
                    life.floodDays.add(d);
                }
            }
            if (life.until(day).letter(person) == letter) {
                above = above.add(weight);
            }
        }
        BigInteger below = BigInteger.valueOf(16).pow(day + 1);
        BigInteger shared = above.gcd(below);
        return (what == 0 ? above : below).divide(shared).longValueExact();
    }

    int crowd(int seed, int day, int person) {
        if (!in(day, 0, 19) || person != NONE && !isFolk(person)) {
            return BAD;
        }
        Life life = new Life();
        int m = folk().length;
        for (int d = 0; d <= day && m > 0; d++) {
            seed = seed * 1103515245 + 12345;
            life.crosses.add(new int[] {d, (int) ((seed & 0xffffffffL) / 65536 % m)});
        }
        life.until(day);
        if (person != NONE) {
            return life.letter(person);
        }
        Set<Integer> letters = new HashSet<>();
        for (int p = 0; p < m; p++) {
            letters.add(life.letter(p));
        }
        return letters.size();
    }

    int sheet(int s, int form, int n) {
        if (!in(s, 0, 3) || !in(form, 0, 2) || n > 60) {
            return BAD;
        }
        if (n < 0) {
            return find(SIZE);
        }
        rows[s] = new int[n];
        forms[s] = form;
        return n;
    }

    int lose(int s) {
        if (!in(s, 0, 3)) {
            return BAD;
        }
        if (rows[s] == null) {
            return find(NULL);
        }
        int had = rows[s].length;
        rows[s] = null;
        return had;
    }

    private int itemRefusal(int s, int form, int i) {
        return !in(s, 0, 3) || !in(form, 0, 2) ? BAD : rows[s] == null ? find(NULL)
                : forms[s] != form ? find(CAST) : !in(i, 0, rows[s].length - 1) ? find(INDEX) : 1;
    }

    int lay(int s, int form, int i, int v) {
        int answer = itemRefusal(s, form, i);
        if (answer == 1) {
            rows[s][i] = form == 0 ? (byte) v : form == 1 ? (short) v : v;
        }
        return answer;
    }

    int get(int s, int form, int i) {
        return itemRefusal(s, form, i) == 1 ? rows[s][i] : Integer.MIN_VALUE;
    }

    int copy(int s, int i, int t, int j, int n) {
        if (!in(s, 0, 3) || !in(t, 0, 3)) {
            return BAD;
        }
        if (rows[s] == null || rows[t] == null) {
            return find(NULL);
        }
        if (forms[s] != forms[t]) {
            return find(STORE);
        }
        if (i < 0 || j < 0 || n < 0 || (long) i + n > rows[s].length || (long) j + n > rows[t].length) {
            return find(INDEX);
        }
        int[] were = rows[s].clone();
        for (int k = 0; k < n; k++) {
            rows[t][j + k] = were[i + k];
        }
        return 1;
    }

    int write(int day, int s) {
        if (!in(day, 0, 19) || !in(s, 0, 3)) {
            return BAD;
        }
        if (rows[s] == null) {
            return find(NULL);
        }
        int n = Math.min(names(), rows[s].length);
        for (int k = 0; k < n; k++) {
            rows[s][k] = name(day, k, 0);
        }
        return n;
    }

    int count(int what) {
        if (!in(what, 0, 8)) {
            return BAD;
        }
        return new int[] {river().length(), folk().length, texts[0].length(), texts[1].length(), names(),
            crossings.size(), catches.size() + floods.size(), seen.size(), found}[what];
    }

    long digest() {
        List<Long> all = new ArrayList<>();
        for (int w = 0; w < 8; w++) {
            all.add((long) count(w));
        }
        all.add((long) fault(0));
        all.add((long) fault(1));
        for (int c = 0; c < count(0); c++) {
            all.add((long) cell(c));
        }
        for (int p = 0; p < count(1); p++) {
            for (int w = 0; w < 4; w++) {
                all.add((long) person(p, w));
            }
            for (int d : new int[] {3, 19}) {
                for (int w = 0; w < 4; w++) {
                    all.add((long) called(d, p, w));
                }
            }
        }
        for (int p = 0; p < count(1); p++) {
            all.add((long) returns(p, 2, 9, NONE));
            all.add((long) returns(p, 2, 9, 0));
            all.add((long) lucky(p));
            all.add(flooded(5, 6, p, 2, 0));
            all.add(flooded(5, 6, p, 2, 1));
            all.add((long) crowd(7, 19, p));
        }
        for (int x = 0; x < count(4); x++) {
            all.add((long) name(9, x, 0));
            all.add((long) name(9, x, 1));
            all.add((long) name(9, x, 2));
            all.add((long) name(19, x, 0));
        }
        for (int k = 0; k < count(5); k++) {
            all.add((long) changes(k));
        }
        for (int answer : new int[] {same(9), first(0), first(1), net(2, NONE), net(2, 0), never(), ask(9),
            crowd(7, 19, NONE)}) {
            all.add((long) answer);
        }
        long h = 17;
        for (long one : all) {
            h = 31 * h + one;
        }
        return h;
    }
}
