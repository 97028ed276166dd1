/** Each promise by answers worked out by hand from the document; a method a promise, in their order. */
public final class PromisesTest {
    private static final int NONE = -1, BAD = -2, NOT = -3, FULL = -4;
    private static final int NULL = -11, INDEX = -12, CAST = -13, STORE = -14, SIZE = -15;
    private static final int LEAST = Integer.MIN_VALUE, MOST = Integer.MAX_VALUE;
    private static final int[] NEVER_AS_TOLD = {NONE, -2, LEAST, MOST};

    private final Dues dues = new Dues();
    private ThrownNames x = new ThrownNames();
    private String scene = "";

    public static void main(String[] args) {
        PromisesTest test = new PromisesTest();
        test.promises1To13();
        test.promises14To20();
        test.promises21To27();
        test.promises28To35();
        test.dues.end();
    }

    private void promises1To13() {
        newObject();
        type();
        wipe();
        undo();
        fault();
        cell();
        person();
        wear();
        cross();
        angle();
        flood();
        back();
        read();
    }

    private void promises14To20() {
        calledByCrossing();
        calledOfNobodyAndWeirs();
        nameDrifts();
        nameComesBehind();
        nameIsSold();
        same();
        first();
        changes();
        returns();
        net();
    }

    private void promises21To27() {
        seen();
        forget();
        never();
        lucky();
        ask();
        flooded();
        crowd();
    }

    private void promises28To35() {
        sheet();
        lose();
        lay();
        get();
        copy();
        write();
        count();
        digest();
        refusalsChangeNothing();
    }

    private void begin(String name, String river, String people) {
        scene = name;
        x = new ThrownNames();
        typeAll(0, river);
        typeAll(1, people);
    }

    private void typeAll(int text, String bytes) {
        for (int i = 0; i < bytes.length(); i++) {
            x.type(text, bytes.charAt(i));
        }
    }

    /** A call by its name, so that a wrong answer can say what was called. */
    private void due(long want, String call, int... a) {
        StringBuilder said = new StringBuilder(scene).append(": ").append(call);
        for (int v : a) {
            said.append(' ').append(v);
        }
        dues.due(said.toString(), Calls.of(x, call, a), want);
    }

    private void newObject() {
        begin("1 new object", "", "");
        for (int what = 0; what < 9; what++) {
            due(0, "count", what);
        }
        for (int s = 0; s < 4; s++) {
            due(NULL, "lose", s);
        }
        for (int c = 0; c < 20; c++) {
            due(NONE, "cell", c);
        }
        due(NONE, "fault", 0);
        due(NONE, "fault", 1);
        due(8, "wear", 8);
        dues.due("NONE", ThrownNames.NONE, NONE);
        dues.due("BAD", ThrownNames.BAD, BAD);
        dues.due("NOT", ThrownNames.NOT, NOT);
        dues.due("FULL", ThrownNames.FULL, FULL);
    }

    private void type() {
        begin("2 type", "", "");
        for (int i = 1; i <= 20; i++) {
            due(i, "type", 0, 'a');
        }
        due(FULL, "type", 0, 'a');
        due(BAD, "type", 0, 256);
        for (int i = 1; i <= 47; i++) {
            due(i, "type", 1, i % 2 == 0 ? 0 : 255);
        }
        due(FULL, "type", 1, 0);
        due(20, "count", 2);
        due(47, "count", 3);
        for (int wrong : NEVER_AS_TOLD) {
            due(BAD, "type", wrong, 'a');
            due(BAD, "type", 0, wrong);
        }
        due(BAD, "type", 2, 'a');
    }

    private void wipe() {
        begin("3 wipe", "ab", "a00.0");
        due(2, "wipe", 0);
        due(0, "wipe", 0);
        due(5, "count", 3);
        due(1, "count", 4);
        due(5, "wipe", 1);
        due(0, "count", 4);
        due(1, "type", 0, '=');
        due(2, "cell", 0);
        due(BAD, "wipe", 2);
        due(BAD, "wipe", NONE);
    }

    private void undo() {
        begin("4 undo", "a=", "a00.0");
        due(1, "undo", 0);
        due(0, "undo", 0);
        due(NOT, "undo", 0);
        due(4, "undo", 1);
        due(0, "count", 1);
        due(BAD, "undo", 2);
        due(BAD, "undo", NONE);
    }

    private void fault() {
        begin("5 fault of the river", "az.~=", "");
        due(NONE, "fault", 0);
        for (char wrong : new char[] {'`', '{', 'A', '-', '/', '}', '<', '>', 0, 255, ';', '0'}) {
            due(6, "type", 0, wrong);
            due(5, "fault", 0);
            due(0, "count", 0);
            due(5, "undo", 0);
        }
        due(5, "count", 0);
        begin("5 fault of people", "", "");
        int[] faults = {1, 2, 3, 4, NONE, 6, 7, 8, 9, 10, NONE};
        String two = "a00.0;z9979";
        for (int i = 0; i < two.length(); i++) {
            due(i + 1, "type", 1, two.charAt(i));
            due(faults[i], "fault", 1);
        }
        due(2, "count", 1);
        faultsInside("a00.0;z9979", "0;.`{A", new int[] {0, 6});
        faultsInside("a00.0;z9979", "a;./:", new int[] {1, 2, 4, 7, 8, 10});
        faultsInside("a00.0;z9979", "a;/89", new int[] {3, 9});
        faultsInside("a00.0;z9979", "a0.,:", new int[] {5});
        begin("5 fault, eight people", "", "a00.0;a00.0;a00.0;a00.0;a00.0;a00.0;a00.0;a00.0");
        due(NONE, "fault", 1);
        due(8, "count", 1);
        due(FULL, "type", 1, ';');
        due(NONE, "fault", 1);
        due(BAD, "fault", 2);
        due(BAD, "fault", NONE);
    }

    private void faultsInside(String well, String wrongs, int[] places) {
        for (int place : places) {
            for (char wrong : wrongs.toCharArray()) {
                begin("5 fault at " + place + " by " + wrong, "", "");
                typeAll(1, well.substring(0, place) + wrong + well.substring(place + 1));
                due(place, "fault", 1);
                due(0, "count", 1);
            }
        }
    }

    private void cell() {
        begin("6 cell", ".~=az", "");
        int[] kinds = {0, 1, 2, 3, 3, NONE};
        for (int c = 0; c < kinds.length; c++) {
            due(kinds[c], "cell", c);
        }
        due(NONE, "cell", 19);
        due(BAD, "cell", 20);
        for (int wrong : NEVER_AS_TOLD) {
            due(BAD, "cell", wrong);
        }
        x.type(0, ';');
        due(NONE, "cell", 0);
    }

    private void person() {
        begin("7 person", "m", "a0070;z99.9");
        int[][] all = {{0, 0, 7, 0}, {25, 99, NONE, 9}};
        for (int p = 0; p < 2; p++) {
            for (int what = 0; what < 4; what++) {
                due(all[p][what], "person", p, what);
            }
        }
        due(BAD, "person", 2, 0);
        due(BAD, "person", 0, 4);
        for (int wrong : NEVER_AS_TOLD) {
            due(BAD, "person", wrong, 0);
            due(BAD, "person", 0, wrong);
        }
        x.undo(1);
        due(BAD, "person", 0, 0);
    }

    private void wear() {
        begin("8 wear", "adehinotuz", "");
        due(8, "wear", 20);
        due(20, "wear", 1);
        due(BAD, "wear", 0);
        due(BAD, "wear", 21);
        for (int wrong : NEVER_AS_TOLD) {
            due(BAD, "wear", wrong);
        }
        int[] vowels = {0, 0, 4, 4, 8, 8, 14, 14, 20, 20};
        for (int n = 0; n < 10; n++) {
            due(vowels[n], "name", 0, n, 2);
        }
        due(1, "wear", 3);
        due(3, "name", 1, 1, 2);
        due(0, "name", 2, 1, 2);
        due(25, "name", 19, 9, 2);
        due(1, "name", 19, 9, 1);
    }

    private void cross() {
        begin("9 cross", "", "");
        for (int i = 1; i <= 16; i++) {
            due(i, "cross", i == 1 ? 0 : 19, i == 1 ? 0 : 7);
        }
        due(FULL, "cross", 0, 0);
        due(BAD, "cross", 20, 0);
        due(BAD, "cross", 0, 8);
        for (int wrong : NEVER_AS_TOLD) {
            due(BAD, "cross", wrong, 0);
            due(BAD, "cross", 0, wrong);
        }
        due(16, "count", 5);
    }

    private void angle() {
        begin("10 angle", "", "");
        for (int i = 1; i <= 8; i++) {
            due(i, "angle", i == 1 ? 0 : 19, i == 1 ? 0 : 19);
        }
        due(FULL, "angle", 0, 0);
        due(BAD, "angle", 20, 0);
        due(BAD, "angle", 0, 20);
        for (int wrong : NEVER_AS_TOLD) {
            due(BAD, "angle", wrong, 0);
            due(BAD, "angle", 0, wrong);
        }
        due(8, "count", 6);
    }

    private void flood() {
        begin("11 flood", "a.........", "");
        for (int i = 1; i <= 6; i++) {
            due(i, "flood", i == 1 ? 0 : 20 - i);
        }
        due(FULL, "flood", 0);
        due(BAD, "flood", 20);
        for (int wrong : NEVER_AS_TOLD) {
            due(BAD, "flood", wrong);
        }
        due(6, "count", 6);
        due(2, "name", 0, 0, 0);
        due(2, "name", 0, 0, 1);
        due(3, "name", 1, 0, 0);
        begin("11 flood, slow cells", "a~~..", "");
        x.flood(1);
        x.flood(2);
        due(1, "name", 0, 0, 0);
        due(1, "name", 1, 0, 0);
        due(3, "name", 2, 0, 0);
        due(3, "name", 2, 0, 1);
        due(4, "name", 3, 0, 0);
    }

    private void back() {
        begin("12 back", "m=", "a00.0;b00.0");
        due(NOT, "back", 0);
        due(NOT, "back", 1);
        due(NOT, "back", 2);
        x.cross(0, 0);
        x.cross(0, 1);
        x.angle(0, 0);
        x.flood(0);
        due(0, "called", 0, 1, 1);
        due(21, "name", 0, 2, 0);
        due(1, "back", 0);
        due(1, "called", 0, 1, 1);
        due(21, "name", 0, 1, 0);
        due(0, "back", 1);
        due(0, "name", 0, 1, 0);
        due(0, "back", 2);
        due(0, "back", 0);
        due(NOT, "back", 0);
        due(BAD, "back", 3);
        due(BAD, "back", NONE);
    }

    private void read() {
        begin("13 read", "m=", "a00.0;b00.0");
        due(BAD, "read", 4);
        due(BAD, "read", NONE);
        due(NULL, "read", 0);
        due(1, "count", 8);
        x.sheet(0, 0, 5);
        layAll(0, 0, 19, 7, 0, 1, 3);
        due(2, "read", 0);
        due(2, "count", 5);
        due(12, "called", 0, 1, 1);
        x.sheet(1, 2, 6);
        layAll(1, 2, 0, 0, 20, 0, 0, 0);
        due(1, "read", 1);
        due(3, "count", 5);
        due(1, "called", 0, 0, 1);
        x.sheet(2, 1, 60);
        due(13, "read", 2);
        due(16, "count", 5);
        due(0, "read", 2);
        x.sheet(3, 0, 1);
        due(0, "read", 3);
        layAll(0, 0, -1);
        x.back(0);
        due(0, "read", 0);
        due(15, "count", 5);
    }

    private void layAll(int s, int form, int... items) {
        for (int i = 0; i < items.length; i++) {
            x.lay(s, form, i, items[i]);
        }
    }

    /** A weir below the bridge holds one NAME there, which goes from hand to hand. */
    private void heldBridge() {
        begin("a held bridge", "m=", "a10.3;b2000;c30.1");
        x.cross(0, 0);
        x.cross(2, 1);
        x.cross(5, 0);
    }

    private void calledByCrossing() {
        heldBridge();
        scene = "14 called";
        int[][] behind0 = {{0, 12, 0, NONE}, {2, 1, 20, NONE}, {3, 2, 30, NONE}};
        int[][] behind2 = {{0, 12, 0, NONE}, {1, 0, 10, NONE}, {3, 2, 30, NONE}};
        int[][] behind5 = {{2, 1, 20, 1}, {1, 0, 10, NONE}, {3, 2, 30, NONE}};
        for (int p = 0; p < 3; p++) {
            for (int what = 0; what < 4; what++) {
                due(behind0[p][what], "called", 1, p, what);
                due(behind2[p][what], "called", 4, p, what);
                due(behind5[p][what], "called", 19, p, what);
            }
        }
        due(BAD, "called", 20, 0, 0);
        due(BAD, "called", 0, 3, 0);
        due(BAD, "called", 0, 0, 4);
        for (int wrong : NEVER_AS_TOLD) {
            due(BAD, "called", wrong, 0, 0);
            due(BAD, "called", 0, wrong, 0);
            due(BAD, "called", 0, 0, wrong);
        }
    }

    private void calledOfNobodyAndWeirs() {
        begin("14 called, wed to oneself and to nobody there", "", "a0000;b0070;c0000");
        due(0, "called", 0, 0, 3);
        due(NONE, "called", 0, 1, 3);
        due(0, "called", 0, 2, 3);
        for (String river : new String[] {"", "=m", ".m", "~m"}) {
            begin("14 called, nothing to take in " + river, river, "a00.0");
            x.cross(0, 0);
            x.cross(1, 0);
            due(0, "called", 19, 0, 1);
            due(0, "changes", 0);
        }
        begin("14 called, in the order told", "m", "a00.0;b00.0;c00.0");
        x.cross(1, 0);
        x.cross(0, 2);
        x.cross(0, 7);
        x.cross(0, 1);
        due(0, "called", 19, 0, 1);
        due(2, "called", 0, 1, 1);
        due(12, "called", 0, 2, 1);
        due(20, "name", 0, 2, 0);
        due(1, "name", 0, 2, 1);
    }

    private void nameDrifts() {
        begin("15 name", "ab.=c~d", "e00.0");
        int[][] where = {{1, 2, 5, 20, 22}, {2, 2, 5, 20, 22}, {2, 2, 6, 20, 22}, {2, 2, 20, 20, 22}};
        int[][] worn = {{1, 1, 1, 1, 0}, {2, 1, 1, 1, 0}, {2, 1, 2, 1, 0}, {2, 1, 3, 1, 0}};
        for (int day = 0; day < 4; day++) {
            for (int n = 0; n < 5; n++) {
                due(where[day][n], "name", day, n, 0);
                due(worn[day][n], "name", day, n, 1);
            }
        }
        for (int n = 0; n < 5; n++) {
            due(n, "name", 19, n, 2);
        }
        due(BAD, "name", 20, 0, 0);
        due(BAD, "name", 0, 5, 0);
        due(BAD, "name", 0, 0, 3);
        for (int wrong : NEVER_AS_TOLD) {
            due(BAD, "name", wrong, 0, 0);
            due(BAD, "name", 0, wrong, 0);
            due(BAD, "name", 0, 0, wrong);
        }
        begin("15 name, the most of them", "abcdefghijklmnopqrst", "a00.0;a00.0;a00.0;a00.0;a00.0;a00.0;a00.0;z00.0");
        due(28, "count", 4);
        due(29, "name", 19, 27, 0);
        due(25, "name", 19, 27, 2);
        due(19, "name", 18, 0, 0);
        due(20, "name", 19, 0, 0);
        due(BAD, "name", 0, 28, 0);
    }

    private void nameComesBehind() {
        begin("15 name, behind all that is there", "abc=", "");
        x.angle(2, 2);
        x.angle(2, 2);
        due(21, "name", 2, 2, 0);
        due(21, "name", 2, 1, 0);
        due(2, "name", 2, 0, 0);
        x.angle(19, 2);
        due(2, "name", 18, 0, 0);
        due(21, "name", 19, 0, 0);
    }

    private void nameIsSold() {
        begin("15 name, caught behind crossings and ahead of drifting", "m.", "a00.0");
        x.angle(0, 0);
        x.cross(0, 0);
        due(22, "name", 0, 0, 0);
        due(21, "name", 0, 1, 0);
        due(0, "name", 19, 1, 1);
        begin("15 name, caught where nothing is", "m.", "");
        x.angle(0, 1);
        x.angle(0, 19);
        due(1, "name", 0, 0, 0);
    }

    private void same() {
        begin("16 same", "b=", "b00.0;a00.0;b00.0;a00.0;b00.0");
        x.cross(3, 1);
        due(4, "same", 0);
        due(4, "same", 2);
        due(6, "same", 3);
        due(BAD, "same", 20);
        for (int wrong : NEVER_AS_TOLD) {
            due(BAD, "same", wrong);
        }
        begin("16 same, nobody", "aa", "");
        due(0, "same", 19);
    }

    private void first() {
        begin("17 first", "m=", "a00.0;b00.0;m00.0;b10.0");
        due(0, "first", 0);
        due(11, "first", 1);
        begin("17 first, later", "m=", "a00.0;b00.0;m00.0;c10.0");
        due(NONE, "first", 0);
        due(NONE, "first", 1);
        x.cross(4, 1);
        due(4, "first", 0);
        due(10, "first", 1);
        x.cross(4, 0);
        x.cross(2, 0);
        due(2, "first", 0);
        due(2, "first", 1);
        begin("17 first, on the last day", "m=", "a00.0;m00.0");
        x.cross(19, 0);
        due(19, "first", 0);
        due(1, "first", 1);
        due(BAD, "first", 2);
        for (int wrong : NEVER_AS_TOLD) {
            due(BAD, "first", wrong);
        }
    }

    private void changes() {
        begin("18 changes", "m", "a00.0");
        x.cross(0, 0);
        x.cross(1, 0);
        x.cross(0, 1);
        x.cross(0, 0);
        due(1, "changes", 0);
        due(0, "changes", 1);
        due(0, "changes", 2);
        due(1, "changes", 3);
        due(BAD, "changes", 4);
        for (int wrong : NEVER_AS_TOLD) {
            due(BAD, "changes", wrong);
        }
        x.angle(0, 0);
        x.type(0, '=');
        due(0, "changes", 1);
        x.back(1);
        due(1, "changes", 1);
    }

    private void returns() {
        heldBridge();
        scene = "19 returns";
        due(0, "returns", 2, 2, 5, NONE);
        due(NONE, "returns", 2, 2, 5, 0);
        due(1, "returns", 2, 12, 5, NONE);
        due(5, "returns", 2, 12, 5, 0);
        due(NONE, "returns", 2, 12, 5, 1);
        due(NONE, "returns", 2, 12, 4, NONE);
        due(0, "returns", 2, 0, 5, 0);
        due(2, "returns", 2, 1, 5, 0);
        due(NONE, "returns", 2, 25, 19, NONE);
        due(NONE, "returns", 2, 25, 19, 0);
        begin("19 returns by two", "m=", "a00.0;b00.0;c00.0");
        x.cross(2, 0);
        x.cross(3, 1);
        due(2, "returns", 1, 12, 3, NONE);
        due(0, "returns", 1, 12, 3, 0);
        due(2, "returns", 1, 12, 3, 1);
        for (int i = 3; i <= 16; i++) {
            x.cross(19, 7);
        }
        due(2, "returns", 1, 12, 3, NONE);
        due(16, "count", 5);
        due(BAD, "returns", 3, 0, 0, 0);
        due(BAD, "returns", 0, 26, 0, 0);
        due(BAD, "returns", 0, 0, 20, 0);
        due(BAD, "returns", 0, 0, 0, 2);
        for (int wrong : NEVER_AS_TOLD) {
            due(BAD, "returns", wrong, 0, 0, 0);
            due(BAD, "returns", 0, wrong, 0, 0);
            due(BAD, "returns", 0, 0, wrong, 0);
            due(wrong == NONE ? 0 : BAD, "returns", 0, 0, 0, wrong);
        }
    }

    private void net() {
        begin("20 net", "ab.=", "k40.0");
        x.cross(0, 0);
        due(40, "net", 0, NONE);
        due(0, "net", 0, 0);
        due(0, "net", 0, 1);
        due(40, "net", 1, NONE);
        due(0, "net", 1, 0);
        due(1, "net", 1, 1);
        due(40, "net", 2, NONE);
        due(2, "net", 2, 0);
        due(2, "net", 2, 1);
        x.angle(19, 2);
        due(40, "net", 3, NONE);
        due(0, "net", 3, 0);
        due(2, "net", 3, 1);
        x.angle(19, 2);
        due(40, "net", 3, NONE);
        due(0, "net", 3, 0);
        due(0, "net", 3, 1);
        begin("20 net, caught later by one told", "a....", "k40.0");
        x.cross(0, 0);
        x.angle(3, 3);
        due(40, "net", 1, NONE);
        due(0, "net", 1, 0);
        due(0, "net", 1, 1);
        begin("20 net, nothing owed", "=", "k40.0");
        due(0, "net", 0, NONE);
        due(0, "net", 0, 0);
        due(0, "net", 0, 1);
        begin("20 net, no cells", "", "k40.0");
        due(NONE, "net", 0, NONE);
        due(NONE, "net", 19, 0);
        due(NONE, "net", 19, 1);
        due(BAD, "net", 20, 0);
        due(BAD, "net", 0, 2);
        for (int wrong : NEVER_AS_TOLD) {
            due(BAD, "net", wrong, 0);
            due(wrong == NONE ? NONE : BAD, "net", 0, wrong);
        }
    }

    private void seen() {
        begin("21 seen", "", "");
        for (int i = 1; i <= 8; i++) {
            due(i, "seen", i == 1 ? 0 : 19, i == 1 ? 0 : 7, i == 1 ? 0 : 25);
        }
        due(FULL, "seen", 0, 0, 0);
        due(BAD, "seen", 20, 0, 0);
        due(BAD, "seen", 0, 8, 0);
        due(BAD, "seen", 0, 0, 26);
        for (int wrong : NEVER_AS_TOLD) {
            due(BAD, "seen", wrong, 0, 0);
            due(BAD, "seen", 0, wrong, 0);
            due(BAD, "seen", 0, 0, wrong);
        }
        due(8, "count", 7);
    }

    private void forget() {
        heldBridge();
        scene = "22 forget";
        due(0, "forget");
        x.seen(0, 0, 25);
        x.seen(0, 0, 25);
        due(0, "never");
        due(2, "forget");
        due(0, "count", 7);
        due(7, "never");
    }

    private void never() {
        heldBridge();
        scene = "23 never";
        due(7, "never");
        // without 0: 0 takes b; without 1: a; without 2: m
        x.seen(19, 0, 12);
        due(4, "never");
        x.forget();
        x.seen(2, 1, 12);
        due(1, "never");
        x.seen(5, 0, 1);
        due(1, "never");
        x.seen(5, 0, 0);
        due(0, "never");
        x.forget();
        x.seen(0, 3, 0);
        due(0, "never");
        begin("23 never, the most crossings", "m=", "a00.0");
        for (int i = 0; i < 16; i++) {
            x.cross(i, 0);
        }
        x.seen(19, 0, 12);
        due(65535, "never");
        x.seen(0, 0, 12);
        due(65534, "never");
        x.seen(15, 0, 0);
        due(0, "never");
    }

    private void lucky() {
        heldBridge();
        scene = "24 lucky";
        due(1023, "lucky", 0);
        x.seen(5, 0, 1);
        due(1023, "lucky", 0);
        due(1023, "lucky", 2);
        x.seen(5, 1, 1);
        due(0, "lucky", 0);
        due(BAD, "lucky", 3);
        for (int wrong : NEVER_AS_TOLD) {
            due(BAD, "lucky", wrong);
        }
    }

    private void ask() {
        heldBridge();
        scene = "25 ask";
        // behind 5, without 0: b, m, c; without 1: a, b, c; without 2: m, a, c
        due(0, "ask", 5);
        x.seen(0, 0, 12);
        // 1 and 2 are left: 0 is a or m, 1 is b or a; so both tell them apart, and 0 is the least
        due(0, "ask", 5);
        // behind 2: 0 is m by both, 1 is b or a
        due(1, "ask", 2);
        x.seen(0, 0, 0);
        due(0, "ask", 5);
        due(BAD, "ask", 20);
        for (int wrong : NEVER_AS_TOLD) {
            due(BAD, "ask", wrong);
        }
        begin("25 ask, nobody", "m", "");
        x.cross(0, 0);
        due(NONE, "ask", 0);
    }

    private void flooded() {
        heldBridge();
        scene = "26 flooded";
        int[][] called = {{12, 1, 2}, {12, 1, 2}, {12, 0, 2}, {12, 0, 2}, {12, 0, 2}, {1, 0, 2}, {1, 0, 2}};
        for (int day = 0; day < 7; day++) {
            for (int p = 0; p < 3; p++) {
                for (int c = 0; c <= 16; c += 4) {
                    due(1, "flooded", c, day, p, called[day][p], 0);
                    due(1, "flooded", c, day, p, called[day][p], 1);
                    due(0, "flooded", c, day, p, 25, 0);
                    due(1, "flooded", c, day, p, 25, 1);
                }
            }
        }
        due(1, "flooded", 7, 9, 0, 1, 0);
        due(1, "flooded", 7, 9, 0, 1, 1);
        long bad = Long.MIN_VALUE + 2;
        due(bad, "flooded", 17, 0, 0, 0, 0);
        due(bad, "flooded", 0, 10, 0, 0, 0);
        due(bad, "flooded", 0, 0, 3, 0, 0);
        due(bad, "flooded", 0, 0, 0, 26, 0);
        due(bad, "flooded", 0, 0, 0, 0, 2);
        for (int wrong : NEVER_AS_TOLD) {
            due(bad, "flooded", wrong, 0, 0, 0, 0);
            due(bad, "flooded", 0, wrong, 0, 0, 0);
            due(bad, "flooded", 0, 0, wrong, 0, 0);
            due(bad, "flooded", 0, 0, 0, wrong, 0);
            due(bad, "flooded", 0, 0, 0, 0, wrong);
        }
    }

    private void crowd() {
        begin("27 crowd", "m=", "a00.0;b00.0;c00.0");
        // LOTS of 3 by 1: 2, 0 (upper bits above half), 0, 0, 0, 1, 2
        due(12, "crowd", 1, 0, 2);
        due(2, "crowd", 1, 1, 0);
        due(0, "crowd", 1, 2, 0);
        due(2, "crowd", 1, 5, 1);
        due(1, "crowd", 1, 6, 2);
        due(3, "crowd", 1, 6, NONE);
        x.cross(0, 0);
        due(0, "crowd", 1, 0, 2);
        due(12, "crowd", 1, 0, 0);
        begin("27 crowd, called alike", "m=", "a00.0;a00.0;c00.0");
        due(2, "crowd", 1, 0, NONE);
        // LOTS of 3 by -5: 2, 1
        due(3, "crowd", -5, 1, NONE);
        due(2, "crowd", -5, 1, 1);
        due(BAD, "crowd", 0, 20, 0);
        due(BAD, "crowd", 0, 0, 3);
        for (int wrong : NEVER_AS_TOLD) {
            due(BAD, "crowd", 0, wrong, 0);
            due(wrong == NONE ? 2 : BAD, "crowd", 1, 0, wrong);
        }
        begin("27 crowd, nobody", "m=", "");
        due(0, "crowd", LEAST, 19, NONE);
        due(BAD, "crowd", 0, 0, 0);
    }

    private void sheet() {
        begin("28 sheet", "", "");
        due(0, "sheet", 0, 0, 0);
        due(60, "sheet", 3, 2, 60);
        due(BAD, "sheet", 3, 2, 61);
        due(BAD, "sheet", 4, 0, 1);
        due(BAD, "sheet", 0, 3, 1);
        due(BAD, "sheet", 4, 0, -1);
        due(BAD, "sheet", 0, 3, -1);
        due(0, "count", 8);
        due(SIZE, "sheet", 0, 0, -1);
        due(5, "count", 8);
        due(SIZE, "sheet", 0, 0, LEAST);
        due(BAD, "sheet", 0, 0, MOST);
        for (int wrong : NEVER_AS_TOLD) {
            due(BAD, "sheet", wrong, 0, 1);
            due(BAD, "sheet", 0, wrong, 1);
        }
        x.lay(3, 2, 0, 7);
        due(60, "sheet", 3, 2, 60);
        due(0, "get", 3, 2, 0);
        due(2, "sheet", 3, 1, 2);
        due(2, "lose", 3);
        due(0, "lose", 0);
    }

    private void lose() {
        begin("29 lose", "", "");
        due(NULL, "lose", 0);
        due(1, "count", 8);
        x.sheet(0, 0, 60);
        due(60, "lose", 0);
        due(NULL, "lose", 0);
        due(BAD, "lose", 4);
        due(BAD, "lose", NONE);
    }

    private void lay() {
        begin("30 lay", "", "");
        int[] wide = {0x12345680, 0x12345680, 0x12348765, 0x12348765, LEAST, MOST};
        int[] form = {0, 1, 0, 1, 2, 2};
        int[] kept = {-128, 0x5680, 0x65, -30875, LEAST, MOST};
        for (int k = 0; k < wide.length; k++) {
            x.sheet(0, form[k], 2);
            due(1, "lay", 0, form[k], 1, wide[k]);
            due(kept[k], "get", 0, form[k], 1);
            due(0, "get", 0, form[k], 0);
        }
        itemRefusals("lay", true);
    }

    private void get() {
        begin("31 get", "", "");
        itemRefusals("get", false);
    }

    /** The order of refusals: BAD, NULL, CAST, INDEX; get tells them by count() 8 alone. */
    private void itemRefusals(String call, boolean told) {
        x = new ThrownNames();
        x.sheet(1, 1, 2);
        int[][] wrong = {{4, 0, 0}, {NONE, 0, 0}, {1, 3, 0}, {1, NONE, 0}, {0, 3, 9}, {0, 0, 9}, {0, 2, 0},
            {1, 0, 9}, {1, 2, 0}, {1, 1, 2}, {1, 1, NONE}, {1, 1, LEAST}, {1, 1, MOST}};
        int[] answer = {BAD, BAD, BAD, BAD, BAD, NULL, NULL, CAST, CAST, INDEX, INDEX, INDEX, INDEX};
        int latest = 0;
        for (int k = 0; k < wrong.length; k++) {
            int[] a = wrong[k];
            if (told) {
                due(answer[k], call, a[0], a[1], a[2], 5);
            } else {
                due(LEAST, call, a[0], a[1], a[2]);
            }
            latest = answer[k] == BAD ? latest : -10 - answer[k];
            due(latest, "count", 8);
        }
        due(0, "get", 1, 1, 0);
        due(0, "get", 1, 1, 1);
    }

    private void copy() {
        begin("32 copy", "", "");
        x.sheet(0, 2, 5);
        layAll(0, 2, 1, 2, 3, 4, 5);
        due(1, "copy", 0, 0, 0, 1, 4);
        items(0, 2, 1, 1, 2, 3, 4);
        due(1, "copy", 0, 1, 0, 0, 4);
        items(0, 2, 1, 2, 3, 4, 4);
        x.sheet(1, 2, 3);
        due(1, "copy", 0, 2, 1, 0, 3);
        items(1, 2, 3, 4, 4);
        due(1, "copy", 0, 5, 1, 3, 0);
        int[][] wrong = {{6, 1, 0, 0}, {0, 1, 4, 0}, {3, 1, 0, 3}, {0, 1, 1, 3}, {-1, 1, 0, 1}, {0, 1, -1, 1},
            {0, 1, 0, -1}, {MOST, 1, 0, 1}, {1, 1, 0, MOST}, {0, 1, MOST, MOST}, {LEAST, 1, LEAST, LEAST}};
        for (int[] a : wrong) {
            due(INDEX, "copy", 0, a[0], a[1], a[2], a[3]);
        }
        due(2, "count", 8);
        x.sheet(2, 1, 3);
        due(STORE, "copy", 0, 0, 2, 0, 1);
        due(STORE, "copy", 2, -1, 0, 0, 1);
        due(4, "count", 8);
        due(NULL, "copy", 0, 0, 3, 0, 1);
        due(NULL, "copy", 3, -1, 0, 0, 1);
        due(NULL, "copy", 3, 0, 3, 0, 0);
        due(1, "count", 8);
        due(BAD, "copy", 4, 0, 3, 0, 1);
        due(BAD, "copy", 3, 0, 4, 0, 1);
        due(BAD, "copy", NONE, 0, 0, 0, 1);
        due(BAD, "copy", 0, 0, NONE, 0, 1);
        items(0, 2, 1, 2, 3, 4, 4);
        items(1, 2, 3, 4, 4);
        items(2, 1, 0, 0, 0);
    }

    private void items(int s, int form, int... want) {
        for (int i = 0; i < want.length; i++) {
            due(want[i], "get", s, form, i);
        }
    }

    private void write() {
        begin("33 write", "ab", "c00.0;d00.0");
        due(BAD, "write", 20, 0);
        due(BAD, "write", 20, 4);
        due(BAD, "write", 0, 4);
        due(BAD, "write", NONE, 0);
        due(BAD, "write", 0, NONE);
        due(0, "count", 8);
        due(NULL, "write", 0, 0);
        due(1, "count", 8);
        for (int form = 0; form < 3; form++) {
            x.sheet(form, form, 5);
            x.lay(form, form, 4, 9);
            due(4, "write", 0, form);
            items(form, form, 1, 20, 22, 23, 9);
        }
        x.sheet(3, 2, 1);
        due(1, "write", 1, 3);
        items(3, 2, 20);
        x.sheet(3, 2, 0);
        due(0, "write", 19, 3);
    }

    private void count() {
        begin("34 count", "ab.", "c00.0;d00.0");
        x.cross(0, 0);
        x.cross(0, 7);
        x.angle(0, 0);
        x.flood(0);
        x.flood(1);
        x.seen(0, 0, 0);
        int[] all = {3, 2, 3, 11, 4, 2, 3, 1, 0};
        for (int what = 0; what < 9; what++) {
            due(all[what], "count", what);
        }
        due(BAD, "count", 9);
        for (int wrong : NEVER_AS_TOLD) {
            due(BAD, "count", wrong);
        }
        x.type(1, ';');
        due(0, "count", 1);
        due(12, "count", 3);
        due(2, "count", 4);
    }

    private void digest() {
        begin("35 digest", "", "");
        long h = 17;
        // counts, no faults, then same, first, net, never, ask and crowd of nobody
        int[] all = {0, 0, 0, 0, 0, 0, 0, 0, NONE, NONE, 0, NONE, NONE, NONE, NONE, 0, NONE, 0};
        for (int one : all) {
            h = 31 * h + one;
        }
        due(h, "digest");
        x.get(0, 0, 0);
        due(h, "digest");
        begin("35 digest, one of each", "m", "c05.3");
        x.cross(0, 0);
        h = 17;
        int[] some = {1, 1, 1, 5, 2, 1, 0, 0, NONE, NONE, 3, 2, 5, NONE, 3, 0, 12, 0, NONE, 0, 12, 0, NONE,
            1, 0, 1023, 0, 1, 2, 22, 0, 12, 22, 20, 1, 2, 20, 1, 0, NONE, NONE, 0, 0, 1, 0, 1};
        for (int one : some) {
            h = 31 * h + one;
        }
        due(h, "digest");
    }

    private void refusalsChangeNothing() {
        heldBridge();
        scene = "refusals change nothing";
        x.sheet(1, 1, 3);
        for (int i = x.count(5); i < 16; i++) {
            x.cross(19, 7);
        }
        long before = x.digest();
        due(BAD, "type", 2, 0);
        due(BAD, "undo", 2);
        due(BAD, "wipe", 2);
        due(BAD, "wear", 21);
        due(FULL, "cross", 0, 2);
        due(BAD, "cross", 0, 8);
        due(BAD, "angle", 0, 20);
        due(NOT, "back", 1);
        due(BAD, "flood", 20);
        due(BAD, "seen", 0, 0, 26);
        due(BAD, "read", 4);
        due(NULL, "read", 0);
        due(CAST, "lay", 1, 0, 0, 1);
        due(SIZE, "sheet", 1, 1, -1);
        due(BAD, "sheet", 1, 1, 61);
        due(5, "count", 8);
        due(8, "wear", 8);
        due(before, "digest");
        due(3, "lose", 1);
    }
}
