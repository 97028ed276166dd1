import java.util.ArrayList;
import java.util.List;

/** Scenes with as much, and as little, as the document lets be; every question at its edges, held against PlainNames. */
public final class EdgesTest {
    private static final String ALL_PEOPLE = "a10.3;b2000;c3011;d4022;e9975;m0546;a1237;z0060";

    /** What later calls of an object answer is free, so none of them is held against anything. */
    private static final int MOST_CALLS = 512;

    private final Dues dues = new Dues();
    private final List<Object[]> told = new ArrayList<>();
    private int calls = 0;
    private ThrownNames real = new ThrownNames();
    private PlainNames plain = new PlainNames();
    private String scene = "";

    public static void main(String[] args) {
        EdgesTest test = new EdgesTest();
        test.askAllOf("as much as may be, drifting", "abcdefghijklmnopqrst", ALL_PEOPLE, true);
        test.askAllOf("as much as may be, held", "m=cdefghijklmno~qrst", ALL_PEOPLE, true);
        test.askAllOf("slow cells", "m~~a~~b~~~~=c~~d~~~e", ALL_PEOPLE, true);
        test.askAllOf("one cell", "q", "q99.9", true);
        test.askAllOf("a weir alone", "=", "q9909", true);
        test.askAllOf("no cells", "", ALL_PEOPLE, true);
        test.askAllOf("nobody", "abc", "", true);
        test.askAllOf("nothing told", "m=", ALL_PEOPLE, false);
        test.askAllOf("nothing at all", "", "", false);
        test.askAllOf("faults", "abc;", "q99.9;", true);
        test.dues.end();
    }

    private void askAllOf(String name, String river, String people, boolean much) {
        scene = name;
        told.clear();
        renew();
        plain = new PlainNames();
        typeAll(0, river);
        typeAll(1, people);
        if (much) {
            tellTheMost();
        }
        for (int wear : new int[] {8, 1, 20}) {
            tell("wear", wear);
            askAll();
        }
    }

    private void typeAll(int text, String bytes) {
        for (int i = 0; i < bytes.length(); i++) {
            tell("type", text, bytes.charAt(i));
        }
    }

    /** One more of each than there is room for. */
    private void tellTheMost() {
        for (int k = 0; k <= 16; k++) {
            tell("cross", k < 8 ? 0 : k < 12 ? k - 8 : k + 3, k % 8);
        }
        for (int k = 0; k <= 8; k++) {
            tell("angle", k < 2 ? 0 : 2 * k + 3, k == 0 ? 19 : k == 8 ? 0 : k);
        }
        for (int k = 0; k <= 6; k++) {
            tell("flood", 3 * k);
        }
        for (int k = 0; k <= 8; k++) {
            int letter = plain.called(2 * k, k % 8, 1);
            tell("seen", 2 * k, k % 8, letter < 0 ? k : letter);
        }
    }

    private void askAll() {
        over("fault", 2);
        over("cell", 20);
        over("person", 8, 4);
        over("called", 20, 8, 4);
        over("name", 20, 28, 3);
        over("same", 20);
        over("first", 2);
        over("changes", 16);
        over("returns", 8, 26, 20, 2);
        over("net", 20, 2);
        both("never");
        over("lucky", 8);
        over("ask", 20);
        over("flooded", 17, 6, 8, 26, 2);
        over("crowd", 65536, 20, 8);
        over("count", 9);
        both("digest");
        tell("forget");
        both("never");
        over("ask", 20);
    }

    /** A call with each argument at -2, -1, 0, somewhere, its last and one beyond. */
    private void over(String call, int... limits) {
        int combinations = 1;
        for (int i = 0; i < limits.length; i++) {
            combinations *= 6;
        }
        for (int k = 0; k < combinations; k++) {
            int[] a = new int[limits.length];
            int rest = k;
            for (int i = 0; i < a.length; i++) {
                a[i] = new int[] {-2, -1, 0, limits[i] / 3, limits[i] - 1, limits[i]}[rest % 6];
                rest /= 6;
            }
            both(call, a);
        }
    }

    /** A new object of which the same has been told. */
    private void renew() {
        real = new ThrownNames();
        for (Object[] one : told) {
            Calls.of(real, (String) one[0], (int[]) one[1]);
        }
        calls = told.size();
    }

    private void tell(String call, int... a) {
        both(call, a);
        told.add(new Object[] {call, a});
    }

    private void both(String call, int... a) {
        if (calls == MOST_CALLS) {
            renew();
        }
        calls++;
        StringBuilder said = new StringBuilder(scene).append(": ").append(call);
        for (int v : a) {
            said.append(' ').append(v);
        }
        dues.due(said.toString(), Calls.of(real, call, a), Calls.of(plain, call, a));
    }
}
