import java.util.Random;

/** Runs of calls by a fixed seed, each answer held against PlainNames, with wrong inputs among them. */
public final class AgainstPlainTest {
    private static final String RIVER_BYTES = "abcdefghijklmnopqrstuvwxyz....~~~==";
    /** What later calls of an object answer is free, so a run ends well ahead of that. */
    private static final int MOST_CALLS = 512, MOST_OF_A_STEP = 80;
    private static final int[] ODD_NUMBERS = {-1, -2, 20, 60, 61, 256, Integer.MIN_VALUE, Integer.MAX_VALUE};

    private final Random random;
    private final Dues dues;
    private final int run;
    private final ThrownNames real = new ThrownNames();
    private final PlainNames plain = new PlainNames();
    private int calls = 0;

    private AgainstPlainTest(int run, Dues dues) {
        this.run = run;
        this.random = new Random(run);
        this.dues = dues;
    }

    public static void main(String[] args) {
        int runs = args.length > 0 ? Integer.parseInt(args[0]) : 1500;
        Dues dues = new Dues();
        for (int run = 0; run < runs; run++) {
            new AgainstPlainTest(run, dues).go();
        }
        dues.end();
    }

    private int below(int n) {
        return random.nextInt(n);
    }

    /** Mostly a number from 0 to n - 1, now and then one that is not as told. */
    private int about(int n) {
        return below(40) == 0 ? ODD_NUMBERS[below(ODD_NUMBERS.length)] : below(50) == 0 ? n : below(n);
    }

    private void go() {
        tellRiver();
        tellPeople();
        boolean busyBridge = below(2) == 0;
        for (int k = below(17); k > 0; k--) {
            told(busyBridge);
        }
        for (int k = 0; k < 60 && calls + MOST_OF_A_STEP < MOST_CALLS; k++) {
            step(below(34));
        }
        if (run % 4 == 0) {
            dues.due(say("digest"), real.digest(), plain.digest());
        }
    }

    private void told(boolean busyBridge) {
        check("cross", busyBridge ? below(3) : below(20), below(8));
        if (below(3) == 0) {
            check("angle", busyBridge ? below(3) : below(20), below(below(4) == 0 ? 2 : 20));
        }
        if (below(4) == 0) {
            check("flood", below(20));
        }
    }

    private void tellRiver() {
        boolean held = below(4) > 0;
        for (int k = below(4) == 0 ? below(21) : 3 + below(18), i = 0; i < k; i++) {
            int b = RIVER_BYTES.charAt(below(RIVER_BYTES.length()));
            if (i == 0 && below(5) > 0) {
                b = 'a' + below(26);
            } else if (i == 1 && held) {
                b = '=';
            }
            check("type", 0, b);
        }
    }

    private void tellPeople() {
        for (int p = 0, n = below(6) == 0 ? below(3) : 2 + below(7); p < n; p++) {
            String one = (p > 0 ? ";" : "") + (char) ('a' + below(below(2) == 0 ? 5 : 26)) + below(10) + below(10)
                    + "01234567.".charAt(below(9)) + below(10);
            for (char b : one.toCharArray()) {
                check("type", 1, b);
            }
        }
    }

    private String say(String call, int... a) {
        StringBuilder said = new StringBuilder("run " + run + ": " + call + "(");
        for (int i = 0; i < a.length; i++) {
            said.append(i > 0 ? ", " : "").append(a[i]);
        }
        return said.append(")").toString();
    }

    private void step(int which) {
        switch (which) {
            case 0: typeAndUndo(about(2)); break;
            case 1: check("type", 0, RIVER_BYTES.charAt(below(RIVER_BYTES.length()))); break;
            case 2: retype(); break;
            case 3: check("fault", about(2)); break;
            case 4: check("cell", about(20)); break;
            case 5: check("person", somebody(), about(4)); break;
            case 6: check("wear", 1 + about(20)); break;
            case 7: check("cross", about(20), about(8)); break;
            case 8: check("angle", about(20), about(20)); break;
            case 9: check("flood", about(20)); break;
            case 10: check("back", about(3)); break;
            case 11: if (below(6) == 0) { check("read", about(4)); } break;
            case 12: check("called", about(20), somebody(), about(4)); break;
            case 13: check("name", about(20), about(28), about(3)); break;
            case 14: check("same", about(20)); break;
            case 15: check("first", about(2)); break;
            case 16: check("changes", about(16)); break;
            case 17: check("returns", somebody(), likelyLetter(), about(20), about(3) - 1); break;
            case 18: if (below(4) == 0) { check("net", about(20), about(3) - 1); } break;
            case 19: see(); break;
            case 20: if (below(2) == 0) { check("forget"); } break;
            case 21: check("never"); break;
            case 22: check("lucky", somebody()); break;
            case 23: check("ask", about(20)); break;
            case 24: check("flooded", about(17), below(6) == 0 ? about(10) : about(6), somebody(), likelyLetter(),
                    about(2)); break;
            case 25: check("crowd", random.nextInt(), about(20), below(2) == 0 ? -1 : somebody()); break;
            case 26: check("sheet", about(4), about(3), below(8) == 0 ? about(61) : below(9)); break;
            case 27: check("lose", about(4)); break;
            case 28: check("lay", about(4), about(3), about(9), below(2) == 0 ? below(20) : random.nextInt()); break;
            case 29: check("get", about(4), about(3), about(9)); break;
            case 30: check("copy", about(4), about(6), about(4), about(6), about(6)); break;
            case 31: check("write", about(20), about(4)); break;
            case 32: check("count", about(9)); break;
            default: check("count", 8);
        }
    }

    /** A byte that may be wrong is looked at and mostly undone, for a FAULT makes all later answers dull. */
    private void typeAndUndo(int text) {
        check("type", text, below(2) == 0 ? about(256) : RIVER_BYTES.charAt(below(RIVER_BYTES.length())));
        check("fault", text);
        check("count", below(5));
        if (below(12) > 0) {
            check("undo", text);
        }
    }

    private void retype() {
        if (below(6) == 0) {
            int text = about(2);
            check("wipe", text);
            if (text == 0) {
                tellRiver();
            } else if (text == 1) {
                tellPeople();
            }
        }
    }

    private int somebody() {
        int people = plain.count(1);
        return people > 0 && below(12) > 0 ? below(people) : about(8);
    }

    /** Something that is so, or nearly so, lest nothing ever comes out. */
    private void see() {
        int day = about(20);
        int person = somebody();
        int called = plain.called(day, person, 1);
        check("seen", day, person, called >= 0 && below(6) > 0 ? called : likelyLetter());
    }

    /** The letter by which somebody is called, more often than by chance. */
    private int likelyLetter() {
        int called = plain.called(below(20), below(8), 1);
        return called >= 0 && below(3) > 0 ? called : about(26);
    }

    private void check(String call, int... a) {
        calls++;
        dues.due(say(call, a), Calls.of(real, call, a), Calls.of(plain, call, a));
    }
}
