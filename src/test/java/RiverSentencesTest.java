import java.io.IOException;

/** Promises 1 to 13: a new object; the river, people, crossings. */
public final class RiverSentencesTest extends Sentences {
    public static void main(String[] args) throws IOException {
        runAll(RiverSentencesTest.class, 1, 13);
    }

    // ---- 1: a new object

    @Says("No CELLS")
    void p01NoCells() {
        begin("", "");
        due(0, "count", 0);
        for (int c = 0; c < 20; c++) {
            due(NONE, "cell", c);
        }
        due(NONE, "net", 0, NONE);
    }

    @Says("nobody")
    void p01Nobody() {
        begin("", "");
        due(0, "count", 1);
        refuse(BAD, "person", 0, 0);
        refuse(BAD, "called", 0, 0, 0);
        refuse(BAD, "lucky", 0);
        due(NONE, "ask", 0);
        due(0, "crowd", 0, 0, NONE);
    }

    @Says("all SHEETS are LOST")
    void p01AllSheetsAreLost() {
        for (int s = 0; s < 4; s++) {
            begin("", "");
            refuse(NULL, "lose", s);
            refuse(NULL, "read", s);
            refuse(NULL, "write", 0, s);
            refuse(NULL, "copy", s, 0, s, 0, 0);
        }
    }

    @Says("CROSSINGS, 16 at most (0 on)")
    void p01NothingIsTold() {
        begin("", "");
        for (int what = 2; what < 8; what++) {
            due(0, "count", what);
        }
        due(0, "forget");
        due(0, "never");
        due(0, "same", 0);
        due(NONE, "first", 0);
        refuse(BAD, "changes", 0);
    }

    @Says("(0 before any)")
    void p01NoFinding() {
        begin("", "");
        due(0, "count", 8);
    }

    @Says("8 at first")
    void p01WearIs8() {
        begin("", "");
        due(8, "wear", 20);
    }

    @Says("public static final int NONE = -1, BAD = -2, NOT = -3, FULL = -4;")
    void p01Constants() throws ReflectiveOperationException {
        String[] names = {"NONE", "BAD", "NOT", "FULL"};
        for (int k = 0; k < names.length; k++) {
            note(names[k], ThrownNames.class.getField(names[k]).getInt(null), -1 - k);
        }
    }

    @Says("`ThrownNames()`: No CELLS, nobody; all SHEETS are LOST.")
    void p01ObjectsShareNothing() {
        ThrownNames early = new ThrownNames();
        long fresh = early.digest();
        beginFull();
        make("wear", 3);
        make("get", 0, 0, 0);
        ThrownNames late = new ThrownNames();
        for (ThrownNames one : new ThrownNames[] {early, late}) {
            note("the digest of another", one.digest(), fresh);
            note("the finding of another", one.count(8), 0);
            note("the WEAR of another", one.wear(8), 8);
            note("a SHEET of another", one.lose(1), NULL);
        }
    }

    @Says("An object is used for at most 512 calls after it has been made")
    void p01The512thCallIsAnswered() {
        beginFull();
        long at = make("digest");
        while (callsLeft() > 2) {
            due(19, "undo", 0);
            due(20, "type", 0, 'r');
        }
        if (callsLeft() > 1) {
            due(20, "count", 0);
        }
        due(at, "digest");
    }

    // ---- 2: type

    @Says("THE RIVER is a text of up to 20 bytes (text 0)")
    void p02TheRiverTakes20Bytes() {
        begin("", "");
        for (int i = 1; i <= 20; i++) {
            due(i, "type", 0, 'a' + i);
        }
        refuse(FULL, "type", 0, 'z');
        refuse(FULL, "type", 0, '=');
        due(20, "count", 2);
        due(20, "count", 0);
        due('a' + 20 - 'a', "name", 0, 19, 2);
    }

    @Says("PEOPLE are a text of up to 47 bytes (text 1)")
    void p02PeopleTake47Bytes() {
        begin("", "");
        for (int i = 1; i <= 47; i++) {
            due(i, "type", 1, EIGHT.charAt(i - 1));
        }
        refuse(FULL, "type", 1, ';');
        refuse(FULL, "type", 1, 'a');
        due(47, "count", 3);
        due(8, "count", 1);
    }

    @Says("FULL")
    void p02EachTextHasItsOwnRoom() {
        begin("aaaaaaaaaaaaaaaaaaaa", "");
        due(1, "type", 1, 'a');
        refuse(FULL, "type", 0, 'a');
        begin("", EIGHT);
        due(1, "type", 0, 'a');
        refuse(FULL, "type", 1, 'a');
    }

    @Says("A byte (0 to 255)")
    void p02LeastAndGreatestByte() {
        for (int text = 0; text < 2; text++) {
            begin("", "");
            due(1, "type", text, 0);
            due(2, "type", text, 255);
            due(2, "count", 2 + text);
        }
    }

    @Says("A byte (0 to 255)")
    void p02BytesBeyond() {
        for (int text = 0; text < 2; text++) {
            begin("ab", "a00.0");
            beyond(BAD, "type", 1, 0, 255, text, 0);
            refuse(BAD, "type", text, 256 + 'a');
            refuse(BAD, "type", text, 'a' - 256);
            due(text == 0 ? 2 : 5, "count", 2 + text);
        }
    }

    @Says("(text 1), 8 at most")
    void p02TextsBeyond() {
        begin("ab", "a00.0");
        beyond(BAD, "type", 0, 0, 1, 0, 'a');
    }

    @Says("A byte (0 to 255) comes behind a text: how many.")
    void p02ComesBehind() {
        begin("a", "");
        due(2, "type", 0, '=');
        due(3, "type", 0, '~');
        due(4, "type", 0, '.');
        for (int c = 0; c < 4; c++) {
            due(3 - c, "cell", c);
        }
        due(0, "count", 3);
    }

    @Says("A byte (0 to 255) comes behind a text: how many.")
    void p02BytesThatDontFitAreCounted() {
        begin("ab", "");
        due(3, "type", 0, 'A');
        due(4, "type", 0, 'b');
        due(1, "type", 1, 0);
        due(4, "count", 2);
        due(0, "count", 0);
    }

    @Says("BAD; FULL.")
    void p02BadIsAheadOfFull() {
        begin("aaaaaaaaaaaaaaaaaaaa", EIGHT);
        for (int text = 0; text < 2; text++) {
            refuse(BAD, "type", text, 256);
            refuse(BAD, "type", text, -1);
            refuse(FULL, "type", text, 255);
        }
        refuse(BAD, "type", 2, 'a');
    }

    // ---- 3: wipe

    @Says("A text is empty: how many bytes it had.")
    void p03NothingAndTheMost() {
        begin("abcdefghijklmnopqrst", EIGHT);
        due(20, "wipe", 0);
        due(0, "wipe", 0);
        due(47, "wipe", 1);
        due(0, "wipe", 1);
        due(0, "count", 2);
        due(0, "count", 3);
        due(0, "count", 4);
    }

    @Says("A text is empty")
    void p03OneTextAlone() {
        begin("ab", "a00.0");
        due(2, "wipe", 0);
        due(5, "count", 3);
        due(1, "count", 1);
        begin("ab", "a00.0");
        due(5, "wipe", 1);
        due(2, "count", 2);
        due(2, "count", 0);
        due(2, "count", 4);
    }

    @Says("how many bytes it had")
    void p03WithAFault() {
        begin("ab;c", "a00.0;");
        due(4, "wipe", 0);
        due(6, "wipe", 1);
        due(NONE, "fault", 0);
        due(NONE, "fault", 1);
    }

    @Says("A text is empty")
    void p03TypedAnew() {
        begin("abcdefghijklmnopqrst", EIGHT);
        make("wipe", 0);
        due(1, "type", 0, '=');
        due(2, "cell", 0);
        due(NONE, "cell", 1);
        make("wipe", 1);
        due(1, "type", 1, 'z');
    }

    @Says("A text is empty")
    void p03WhatWasToldStays() {
        beginFull();
        make("wear", 5);
        due(20, "wipe", 0);
        due(47, "wipe", 1);
        due(16, "count", 5);
        due(14, "count", 6);
        due(8, "count", 7);
        due(7, "get", 1, 1, 2);
        due(5, "wear", 8);
    }

    @Says("how many bytes it had. BAD.")
    void p03TextsBeyond() {
        begin("ab", "a00.0");
        beyond(BAD, "wipe", 0, 0, 1, 0);
    }

    // ---- 4: undo

    @Says("The last byte of a text is undone: how many are left.")
    void p04FromTheMostToNothing() {
        begin("abcdefghijklmnopqrst", EIGHT);
        for (int left = 19; left >= 0; left--) {
            due(left, "undo", 0);
            due(left, "count", 2);
        }
        for (int left = 46; left >= 0; left--) {
            due(left, "undo", 1);
            due(left, "count", 3);
        }
    }

    @Says("NOT: it is empty")
    void p04Empty() {
        begin("", "");
        refuse(NOT, "undo", 0);
        refuse(NOT, "undo", 1);
        begin("a", "a00.0");
        make("undo", 0);
        refuse(NOT, "undo", 0);
        due(4, "undo", 1);
        begin("a", "a");
        make("undo", 1);
        refuse(NOT, "undo", 1);
        due(0, "undo", 0);
    }

    @Says("The last byte of a text is undone")
    void p04TheLastByteAlone() {
        begin("a=~", "a00.0;b00.0");
        due(2, "undo", 0);
        due(3, "cell", 0);
        due(2, "cell", 1);
        due(NONE, "cell", 2);
        due(2, "count", 1);
    }

    @Says("The last byte of a text is undone")
    void p04AFaultIsUndone() {
        begin("ab;", "a00.0;");
        due(2, "undo", 0);
        due(NONE, "fault", 0);
        due(2, "count", 0);
        due(5, "undo", 1);
        due(NONE, "fault", 1);
        due(1, "count", 1);
    }

    @Says("The last byte of a text is undone")
    void p04ThereIsRoomAgain() {
        begin("aaaaaaaaaaaaaaaaaaaa", EIGHT);
        due(19, "undo", 0);
        due(20, "type", 0, '=');
        refuse(FULL, "type", 0, '=');
        due(2, "cell", 19);
        due(46, "undo", 1);
        due(47, "type", 1, '9');
        refuse(FULL, "type", 1, '9');
        due(9, "person", 7, 3);
    }

    @Says("how many are left. BAD; NOT: it is empty.")
    void p04TextsBeyond() {
        begin("", "");
        beyond(BAD, "undo", 0, 0, 1, 0);
        begin("ab", "a00.0");
        beyond(BAD, "undo", 0, 0, 1, 0);
    }

    // ---- 5: fault

    @Says("(an empty one is well;")
    void p05AnEmptyOneIsWell() {
        begin("", "");
        due(NONE, "fault", 0);
        due(NONE, "fault", 1);
        begin("a", "a");
        make("undo", 0);
        make("wipe", 1);
        due(NONE, "fault", 0);
        due(NONE, "fault", 1);
    }

    @Says("a letter a to z (0 to 25; a NAME of that letter lies there), .")
    void p05EachByteOfTheRiver() {
        for (int at : new int[] {0, 1, 19}) {
            for (int b = 0; b < 256; b++) {
                begin("aaaaaaaaaaaaaaaaaaaa".substring(0, at), "");
                make("type", 0, b);
                boolean well = b >= 'a' && b <= 'z' || b == '.' || b == '~' || b == '=';
                due(well ? NONE : at, "fault", 0);
                due(well ? at + 1 : 0, "count", 0);
            }
        }
    }

    private static boolean fits(int place, int b) {
        switch (place) {
            case 0: return b >= 'a' && b <= 'z';
            case 3: return b == '.' || b >= '0' && b <= '7';
            case 5: return b == ';';
            default: return b >= '0' && b <= '9';
        }
    }

    private void eachByteOfPeople(int place) {
        for (int at = place; at < 47; at += 6) {
            for (int b = 0; b < 256; b++) {
                begin("", EIGHT.substring(0, at));
                make("type", 1, b);
                boolean ended = place == 4;
                due(!fits(place, b) ? at : ended ? NONE : at + 1, "fault", 1);
            }
        }
    }

    @Says("a letter a to z (its NAME)")
    void p05EachByteOfANameOfPeople() {
        eachByteOfPeople(0);
    }

    @Says("two figures, how much that OWES (00 to 99)")
    void p05EachByteOfWhatIsOwed() {
        eachByteOfPeople(1);
        eachByteOfPeople(2);
    }

    @Says("a figure 0 to 7 or . (to whom it is WED; nobody)")
    void p05EachByteOfWed() {
        eachByteOfPeople(3);
    }

    @Says("and a figure, its LUCK (0 to 9)")
    void p05EachByteOfLuck() {
        eachByteOfPeople(4);
    }

    @Says("with ; between them")
    void p05EachByteBetween() {
        eachByteOfPeople(5);
    }

    @Says("of one that is not ended, its end)")
    void p05NotEnded() {
        for (int n = 0; n <= 47; n++) {
            begin("", EIGHT.substring(0, n));
            due(n == 0 || n % 6 == 5 ? NONE : n, "fault", 1);
            due(n % 6 == 5 ? (n + 1) / 6 : 0, "count", 1);
        }
    }

    @Says("the place of the first byte with which it cannot go on")
    void p05TheFirstOfSeveral() {
        begin("a;b;", "a00;0;");
        due(1, "fault", 0);
        due(3, "fault", 1);
        begin(";", "A00.0;;");
        due(0, "fault", 0);
        due(0, "fault", 1);
        begin("", "a00.0;a0x");
        due(8, "fault", 1);
    }

    @Says("here also of the first byte of a ninth of PEOPLE")
    void p05ThereIsNoRoomForANinth() {
        begin("", EIGHT);
        due(NONE, "fault", 1);
        refuse(FULL, "type", 1, ';');
        due(NONE, "fault", 1);
        due(8, "count", 1);
    }

    @Says("With a FAULT a text is as if it was empty.")
    void p05AsIfItWasEmpty() {
        begin("ab;", "c00.0;d00.0");
        due(0, "count", 0);
        due(NONE, "cell", 0);
        due(2, "count", 4);
        due(2, "name", 0, 0, 2);
        due(3, "count", 2);
        due(NONE, "net", 0, NONE);
        begin("ab", "c00.0;d00.0;");
        due(0, "count", 1);
        refuse(BAD, "person", 0, 0);
        due(2, "count", 4);
        due(12, "count", 3);
        due(NONE, "ask", 0);
    }

    @Says("With a FAULT a text is as if it was empty.")
    void p05WhatWasToldGoesOnWithoutIt() {
        begin("m=", "a00.0;b00.0");
        make("cross", 0, 1);
        due(12, "called", 0, 1, 1);
        make("type", 0, ';');
        due(1, "called", 0, 1, 1);
        due(0, "changes", 0);
        make("undo", 0);
        due(12, "called", 0, 1, 1);
        make("undo", 1);
        due(0, "changes", 0);
        refuse(BAD, "called", 0, 1, 1);
        due(0, "name", 0, 0, 0);
    }

    @Says("The FAULT of a text; NONE. BAD.")
    void p05TextsBeyond() {
        begin("a;", "b;");
        beyond(BAD, "fault", 0, 0, 1, 0);
    }

    // ---- 6: cell

    @Says("0 none lies there, 1 slow, 2 a weir, 3 a NAME does")
    void p06EachKind() {
        begin(".~=az", "");
        int[] kinds = {0, 1, 2, 3, 3};
        for (int c = 0; c < kinds.length; c++) {
            due(kinds[c], "cell", c);
        }
    }

    @Says("NONE: there is no such CELL")
    void p06BehindTheLast() {
        begin("", "");
        due(NONE, "cell", 0);
        due(NONE, "cell", 19);
        begin("a", "");
        due(3, "cell", 0);
        due(NONE, "cell", 1);
        begin("aaaaaaaaaaaaaaaaaaa", "");
        due(3, "cell", 18);
        due(NONE, "cell", 19);
    }

    @Says("What a CELL (0 to 19) is at first")
    void p06LeastAndGreatest() {
        begin("~aaaaaaaaaaaaaaaaaa=", "");
        due(1, "cell", 0);
        due(2, "cell", 19);
        beyond(BAD, "cell", 0, 0, 19, 0);
    }

    @Says("NONE: there is no such CELL. BAD.")
    void p06BadIsAheadOfNone() {
        begin("", "");
        beyond(BAD, "cell", 0, 0, 19, 0);
    }

    @Says("With a FAULT a text is as if it was empty.")
    void p06WithAFault() {
        begin(".~=a-", "");
        for (int c = 0; c < 5; c++) {
            due(NONE, "cell", c);
        }
    }

    @Says("What a CELL (0 to 19) is at first")
    void p06AtFirst() {
        begin("a.b", "c00.0");
        make("angle", 0, 0);
        make("angle", 0, 2);
        due(3, "cell", 0);
        due(0, "cell", 1);
        due(3, "cell", 2);
    }

    // ---- 7: person

    @Says("The letter (what = 0)")
    void p07Letters() {
        begin("m", "a00.0;z00.0");
        due(0, "person", 0, 0);
        due(25, "person", 1, 0);
    }

    @Says("two figures, how much that OWES (00 to 99)")
    void p07Owes() {
        begin("m", "a00.0;b99.0;c10.0;d01.0;e09.0;f90.0");
        int[] owes = {0, 99, 10, 1, 9, 90};
        for (int p = 0; p < owes.length; p++) {
            due(owes[p], "person", p, 1);
        }
    }

    @Says("to whom it is WED (2; as told; NONE)")
    void p07WedAsTold() {
        begin("m", "a0000;b0070;c00.0");
        due(0, "person", 0, 2);
        due(7, "person", 1, 2);
        due(NONE, "person", 2, 2);
    }

    @Says("its LUCK (0 to 9)")
    void p07Luck() {
        begin("m", "a00.0;b00.9");
        due(0, "person", 0, 3);
        due(9, "person", 1, 3);
    }

    @Says("of one of PEOPLE as told")
    void p07AsTold() {
        begin("m=", "a10.3;b2000");
        make("cross", 0, 0);
        make("cross", 0, 1);
        due(12, "called", 0, 0, 1);
        int[][] all = {{0, 10, NONE, 3}, {1, 20, 0, 0}};
        for (int p = 0; p < 2; p++) {
            for (int what = 0; what < 4; what++) {
                due(all[p][what], "person", p, what);
            }
        }
    }

    @Says("8 at most (0 on)")
    void p07PeopleBeyond() {
        begin("m", EIGHT);
        due(7, "person", 7, 0);
        due(80, "person", 7, 1);
        beyond(BAD, "person", 0, 0, 7, 0, 0);
        begin("m", "a00.0;b00.0");
        due(1, "person", 1, 0);
        refuse(BAD, "person", 2, 0);
        refuse(BAD, "person", 7, 0);
        begin("m", "");
        refuse(BAD, "person", 0, 0);
    }

    @Says("LUCK (3) of one of PEOPLE as told. BAD.")
    void p07WhatsBeyond() {
        begin("m", EIGHT);
        beyond(BAD, "person", 1, 0, 3, 0, 0);
    }

    @Says("With a FAULT a text is as if it was empty.")
    void p07WithAFault() {
        begin("m", "a00.0;b00.");
        refuse(BAD, "person", 0, 0);
        due(11, "type", 1, '0');
        due(0, "person", 0, 0);
    }

    // ---- 8: wear

    @Says("WEAR (1 to 20; 8 at first)")
    void p08LeastAndGreatest() {
        begin("", "");
        due(8, "wear", 1);
        due(1, "wear", 20);
        due(20, "wear", 20);
        due(20, "wear", 8);
    }

    @Says("WEAR: what it was. BAD.")
    void p08Beyond() {
        begin("b...................", "");
        beyond(BAD, "wear", 0, 1, 20, 1);
        due(8, "wear", 5);
        beyond(BAD, "wear", 0, 1, 20, 1);
        due(5, "wear", 8);
    }

    @Says("when it is WORN by WEAR")
    void p08WornByWearAndNotSooner() {
        for (int wear = 1; wear <= 20; wear++) {
            begin("b...................", "");
            make("wear", wear);
            for (int day = 0; day < 20; day++) {
                due(day + 1 < wear ? 1 : 0, "name", day, 0, 2);
            }
        }
    }

    @Says("(1 to 20; 8 at first)")
    void p08WornBy8AtFirst() {
        begin("b...................", "");
        due(1, "name", 6, 0, 2);
        due(0, "name", 7, 0, 2);
    }

    @Says("it becomes the last one of a, e, i, o, u that is not behind it")
    void p08EachLetter() {
        String vowels = "aaaaeeeeiiiiiioooooouuuuuu";
        for (int letter = 0; letter < 26; letter++) {
            begin("." + (char) ('a' + letter), "");
            make("wear", 1);
            due(vowels.charAt(letter) - 'a', "name", 0, 0, 2);
        }
    }

    @Says("Each time it drifts a NAME is 1 more WORN; when it is WORN by WEAR")
    void p08WornByMoreThanWearAtOnce() {
        begin("z...", "");
        make("wear", 1);
        make("flood", 0);
        due(2, "name", 0, 0, 1);
        due(20, "name", 0, 0, 2);
        begin("z...", "");
        make("wear", 2);
        make("flood", 0);
        due(20, "name", 0, 0, 2);
    }

    @Says("WEAR: what it was.")
    void p08ChangedLater() {
        begin("b...................", "");
        due(1, "name", 3, 0, 2);
        make("wear", 4);
        due(0, "name", 3, 0, 2);
        make("wear", 5);
        due(1, "name", 3, 0, 2);
        due(4, "name", 3, 0, 1);
    }

    // ---- 9: cross

    @Says("DAYS are 0 to 19.")
    void p09DaysLeastAndGreatest() {
        begin("m=", "a00.0;b00.0");
        due(1, "cross", 0, 0);
        due(2, "cross", 19, 1);
        due(12, "called", 0, 0, 1);
        due(1, "called", 18, 1, 1);
        due(0, "called", 19, 1, 1);
        beyond(BAD, "cross", 0, 0, 19, 0, 0);
    }

    @Says("on a DAY one of PEOPLE (0 to 7) crosses")
    void p09PeopleLeastAndGreatest() {
        begin("m=", EIGHT);
        due(1, "cross", 0, 7);
        due(2, "cross", 0, 0);
        due(12, "called", 0, 7, 1);
        due(7, "called", 0, 0, 1);
        beyond(BAD, "cross", 1, 0, 7, 0, 0);
    }

    @Says("CROSSINGS, 16 at most (0 on)")
    void p09SixteenAtMost() {
        begin("m=", EIGHT);
        for (int i = 1; i <= 16; i++) {
            due(i, "cross", i, i % 8);
        }
        refuse(FULL, "cross", 0, 0);
        refuse(FULL, "cross", 19, 7);
        due(16, "count", 5);
        due(1, "changes", 15);
    }

    @Says("A CROSSING more: how many. BAD; FULL.")
    void p09BadIsAheadOfFull() {
        beginFull();
        refuse(BAD, "cross", 20, 0);
        refuse(BAD, "cross", 0, 8);
        refuse(BAD, "cross", -1, 0);
        refuse(BAD, "cross", 0, -1);
        refuse(FULL, "cross", 0, 0);
    }

    @Says("A CROSSING more: how many.")
    void p09OneWhoIsNotThere() {
        begin("m=", "a00.0");
        due(1, "cross", 0, 1);
        due(2, "cross", 0, 7);
        due(0, "changes", 0);
        due(0, "name", 0, 0, 0);
        type(1, ";b00.0");
        due(1, "changes", 0);
        due(0, "changes", 1);
        due(12, "called", 0, 1, 1);
    }

    @Says("On a DAY first CROSSINGS, as told")
    void p09AsToldOnADay() {
        begin("m=", "a00.0;b00.0;c00.0");
        make("cross", 4, 2);
        make("cross", 4, 0);
        make("cross", 4, 1);
        due(12, "called", 4, 2, 1);
        due(2, "called", 4, 0, 1);
        due(0, "called", 4, 1, 1);
        due(0, "name", 4, 2, 0);
    }

    @Says("on a DAY one of PEOPLE (0 to 7) crosses")
    void p09AnEarlierDayToldLater() {
        begin("m=", "a00.0;b00.0");
        make("cross", 5, 0);
        make("cross", 2, 1);
        due(12, "called", 2, 1, 1);
        due(1, "called", 5, 0, 1);
    }

    @Says("On a DAY first CROSSINGS, as told")
    void p09TwiceOnADay() {
        begin("m=", "a00.0");
        make("cross", 1, 0);
        make("cross", 1, 0);
        due(0, "called", 1, 0, 1);
        due(1, "changes", 0);
        due(1, "changes", 1);
    }

    // ---- 10: angle

    @Says("DAYS are 0 to 19.")
    void p10DaysLeastAndGreatest() {
        begin("m=cd.=", "");
        due(1, "angle", 0, 2);
        due(2, "angle", 19, 0);
        due(21, "name", 0, 1, 0);
        due(0, "name", 18, 0, 0);
        due(21, "name", 19, 0, 0);
        beyond(BAD, "angle", 0, 0, 19, 0, 0);
    }

    @Says("on a DAY an angler at a CELL (0 to 19)")
    void p10CellsLeastAndGreatest() {
        begin("a=.................b", "");
        due(1, "angle", 0, 0);
        due(2, "angle", 0, 19);
        due(21, "name", 0, 0, 0);
        due(21, "name", 0, 1, 0);
        beyond(BAD, "angle", 1, 0, 19, 0, 0);
    }

    @Says("CATCHES, 8 at most (0 on)")
    void p10EightAtMost() {
        begin("m=abcdefghijklmnop=r", "");
        for (int i = 1; i <= 8; i++) {
            due(i, "angle", i, 17);
        }
        refuse(FULL, "angle", 0, 0);
        refuse(FULL, "angle", 19, 19);
        due(8, "count", 6);
        due(0, "name", 19, 0, 0);
    }

    @Says("A CATCH more: how many. BAD; FULL.")
    void p10BadIsAheadOfFull() {
        beginFull();
        refuse(BAD, "angle", 20, 0);
        refuse(BAD, "angle", -1, 0);
        refuse(BAD, "angle", 0, 20);
        refuse(BAD, "angle", 0, -1);
        refuse(FULL, "angle", 0, 0);
    }

    @Says("A CATCH more: how many.")
    void p10ACellThatIsNotThere() {
        begin("m", "");
        due(1, "angle", 1, 1);
        due(2, "angle", 1, 19);
        due(20, "name", 0, 0, 0);
        type(0, "..");
        due(1, "name", 0, 0, 0);
        due(21, "name", 1, 0, 0);
    }

    @Says("the first of the NAMES in that CELL is SOLD")
    void p10TheFirstAlone() {
        begin("ab=", "");
        make("angle", 1, 1);
        due(1, "name", 0, 0, 0);
        due(1, "name", 0, 1, 0);
        due(21, "name", 1, 1, 0);
        due(1, "name", 1, 0, 0);
    }

    @Says("Then CATCHES, as told")
    void p10TwoInACellOnADay() {
        begin("abc=", "");
        make("angle", 2, 2);
        make("angle", 2, 2);
        due(21, "name", 2, 2, 0);
        due(21, "name", 2, 1, 0);
        due(2, "name", 2, 0, 0);
    }

    @Says("the first of the NAMES in that CELL is SOLD")
    void p10NoneLiesThere() {
        begin("a.=~b", "");
        make("angle", 0, 1);
        make("angle", 0, 2);
        make("angle", 0, 3);
        due(1, "name", 0, 0, 0);
        due(20, "name", 0, 1, 0);
    }

    @Says("On a DAY first CROSSINGS, as told")
    void p10BehindCrossingsWheneverTold() {
        begin("m=", "a00.0");
        make("angle", 3, 0);
        make("cross", 3, 0);
        due(21, "name", 3, 1, 0);
        due(22, "name", 3, 0, 0);
    }

    @Says("Then all that is in CELLS drifts")
    void p10AheadOfDrifting() {
        begin("a.b.", "");
        make("angle", 0, 0);
        make("angle", 0, 3);
        due(21, "name", 0, 0, 0);
        due(0, "name", 0, 0, 1);
        due(3, "name", 0, 1, 0);
    }

    // ---- 11: flood

    @Says("FLOODS (DAYS as told, 6 at most)")
    void p11DaysLeastAndGreatest() {
        begin("m=a~~~~~~~~~........", "");
        // a leaves a slow CELL on even DAYS alone, the last of them on DAY 18
        due(12, "name", 18, 1, 0);
        due(13, "name", 19, 1, 0);
        due(1, "flood", 19);
        due(12, "name", 18, 1, 0);
        due(14, "name", 19, 1, 0);
        begin("a..", "");
        due(1, "flood", 0);
        due(2, "name", 0, 0, 0);
        beyond(BAD, "flood", 0, 0, 19, 0);
    }

    @Says("FLOODS (DAYS as told, 6 at most)")
    void p11SixAtMost() {
        begin("a..................", "");
        for (int i = 1; i <= 6; i++) {
            due(i, "flood", i);
        }
        refuse(FULL, "flood", 0);
        refuse(FULL, "flood", 19);
        due(6, "count", 6);
        due(1, "name", 0, 0, 0);
        due(13, "name", 6, 0, 0);
    }

    @Says("A FLOOD more: how many. BAD; FULL.")
    void p11BadIsAheadOfFull() {
        beginFull();
        refuse(BAD, "flood", 20);
        refuse(BAD, "flood", -1);
        refuse(FULL, "flood", 0);
    }

    @Says("In a FLOOD once more, likewise")
    void p11OnceMoreOnThatDayAlone() {
        begin("a.........", "");
        make("flood", 1);
        int[] where = {1, 3, 4, 5};
        int[] worn = {1, 3, 4, 5};
        for (int day = 0; day < 4; day++) {
            due(where[day], "name", day, 0, 0);
            due(worn[day], "name", day, 0, 1);
        }
    }

    @Says("In a FLOOD once more, likewise")
    void p11ToldTwiceForADay() {
        begin("a.........", "");
        due(1, "flood", 1);
        due(2, "flood", 1);
        due(2, "count", 6);
        due(3, "name", 1, 0, 0);
        due(1, "back", 2);
        due(3, "name", 1, 0, 0);
        due(0, "back", 2);
        due(2, "name", 1, 0, 0);
    }

    @Says("(from a slow CELL on even DAYS alone, too)")
    void p11SlowCells() {
        begin("a~~~..", "");
        make("flood", 1);
        make("flood", 2);
        int[] where = {1, 1, 3, 3, 4};
        for (int day = 0; day < where.length; day++) {
            due(where[day], "name", day, 0, 0);
        }
        begin(".a.~..", "");
        make("flood", 1);
        due(2, "name", 0, 0, 0);
        due(3, "name", 1, 0, 0);
        due(4, "name", 2, 0, 0);
        begin("a.~..", "");
        make("flood", 1);
        due(2, "name", 1, 0, 0);
        due(2, "name", 1, 0, 1);
    }

    @Says("into the next CELL, if that is no weir")
    void p11WeirsHold() {
        begin("a.=b", "");
        make("flood", 0);
        due(1, "name", 0, 0, 0);
        due(1, "name", 0, 0, 1);
        begin("m=", "");
        make("flood", 0);
        due(0, "name", 0, 0, 0);
        due(0, "name", 0, 0, 1);
    }

    @Says("(beyond the last one into the SEA)")
    void p11IntoTheSea() {
        begin("ab", "");
        make("flood", 0);
        due(20, "name", 0, 0, 0);
        due(2, "name", 0, 0, 1);
        due(20, "name", 0, 1, 0);
        due(1, "name", 0, 1, 1);
    }

    // ---- 12: back

    @Says("The last CROSSING (what = 0), CATCH (1), FLOOD (2) is undone: how many are left.")
    void p12FromTheMostToNothing() {
        beginFull();
        for (int left = 15; left >= 0; left--) {
            due(left, "back", 0);
            due(left, "count", 5);
        }
        due(14, "count", 6);
        for (int left = 7; left >= 0; left--) {
            due(left, "back", 1);
            due(left + 6, "count", 6);
        }
        for (int left = 5; left >= 0; left--) {
            due(left, "back", 2);
            due(left, "count", 6);
        }
        due(8, "count", 7);
    }

    @Says("NOT: there is none")
    void p12NoneOfOneKind() {
        begin("m=", "a00.0");
        make("angle", 0, 0);
        make("flood", 0);
        refuse(NOT, "back", 0);
        begin("m=", "a00.0");
        make("cross", 0, 0);
        make("flood", 0);
        refuse(NOT, "back", 1);
        begin("m=", "a00.0");
        make("cross", 0, 0);
        make("angle", 0, 0);
        refuse(NOT, "back", 2);
    }

    @Says("NOT: there is none")
    void p12NoneAtAll() {
        begin("", "");
        for (int what = 0; what < 3; what++) {
            refuse(NOT, "back", what);
        }
        make("cross", 0, 0);
        due(0, "back", 0);
        refuse(NOT, "back", 0);
        due(1, "cross", 0, 0);
    }

    @Says("The last CROSSING (what = 0)")
    void p12TheLastCrossing() {
        begin("m=", "a00.0;b00.0");
        make("cross", 5, 0);
        make("cross", 2, 1);
        due(1, "back", 0);
        due(1, "called", 19, 1, 1);
        due(12, "called", 5, 0, 1);
        due(0, "called", 4, 0, 1);
    }

    @Says("CATCH (1)")
    void p12TheLastCatch() {
        begin("m=ab=", "");
        make("angle", 5, 0);
        make("angle", 0, 2);
        due(1, "back", 1);
        due(3, "name", 19, 1, 0);
        due(0, "name", 4, 0, 0);
        due(21, "name", 5, 0, 0);
    }

    @Says("FLOOD (2) is undone")
    void p12TheLastFlood() {
        begin("a.........", "");
        make("flood", 2);
        make("flood", 0);
        due(1, "back", 2);
        due(1, "name", 0, 0, 0);
        due(4, "name", 2, 0, 0);
    }

    @Says("is undone: how many are left")
    void p12ThereIsRoomAgain() {
        beginFull();
        make("back", 0);
        due(16, "cross", 19, 7);
        refuse(FULL, "cross", 19, 7);
        make("back", 1);
        due(8, "angle", 0, 0);
        refuse(FULL, "angle", 0, 0);
        make("back", 2);
        due(6, "flood", 19);
        refuse(FULL, "flood", 19);
    }

    @Says("how many are left. BAD; NOT: there is none.")
    void p12WhatsBeyond() {
        beginFull();
        beyond(BAD, "back", 0, 0, 2, 0);
        begin("", "");
        beyond(BAD, "back", 0, 0, 2, 0);
    }

    // ---- 13: read

    @Says("its items, two for each, as many as are whole")
    void p13AsManyAsAreWhole() {
        int[] whole = {0, 0, 1, 1, 2, 2};
        for (int n = 0; n < whole.length; n++) {
            begin("m=", "a00.0");
            make("sheet", 0, 0, n);
            due(whole[n], "read", 0);
            due(whole[n], "count", 5);
        }
    }

    @Says("CROSSINGS from a SHEET: its items, two for each")
    void p13ADayAndOneOfPeople() {
        begin("m=", EIGHT);
        lay(0, 1, 19, 0, 0, 7);
        due(2, "read", 0);
        due(12, "called", 0, 7, 1);
        due(0, "called", 18, 0, 1);
        due(7, "called", 19, 0, 1);
    }

    @Says("as long as each may be")
    void p13LeastAndGreatest() {
        begin("m=", EIGHT);
        lay(0, 2, 0, 0, 19, 7);
        due(2, "read", 0);
        int[][] wrong = {{-1, 0}, {20, 0}, {0, -1}, {0, 8}, {LEAST, 0}, {0, MOST}, {65536, 0}, {0, 256}};
        for (int[] one : wrong) {
            begin("m=", EIGHT);
            lay(1, 2, one);
            due(0, "read", 1);
            due(0, "count", 5);
        }
    }

    @Says("as long as each may be")
    void p13NothingBehindOneThatMayNotBe() {
        begin("m=", "a00.0;b00.0");
        lay(0, 0, 0, 1, 20, 0, 0, 0);
        due(1, "read", 0);
        due(1, "count", 5);
        due(0, "called", 19, 0, 1);
    }

    @Says("CROSSINGS, 16 at most (0 on)")
    void p13SixteenAtMost() {
        begin("m=", "a00.0");
        make("sheet", 3, 1, 60);
        due(16, "read", 3);
        due(16, "count", 5);
        due(0, "read", 3);
        due(16, "count", 5);
        make("back", 0);
        due(1, "read", 3);
        due(16, "count", 5);
    }

    @Says("CROSSINGS from a SHEET")
    void p13BehindThoseThatAreThere() {
        begin("m=", "a00.0;b00.0");
        make("cross", 3, 0);
        lay(0, 0, 3, 1);
        due(1, "read", 0);
        due(2, "count", 5);
        due(12, "called", 3, 0, 1);
        due(0, "called", 3, 1, 1);
    }

    @Says("0 bytes, 1 shorts, 2 ints")
    void p13OfEachForm() {
        for (int form = 0; form < 3; form++) {
            begin("m=", "a00.0;b00.0");
            lay(form, form, 2, 1);
            due(1, "read", form);
            due(1, "called", 1, 1, 1);
            due(12, "called", 2, 1, 1);
            items(form, form, 2, 1);
        }
    }

    @Says("BAD; NULL.")
    void p13Lost() {
        begin("m=", "a00.0");
        make("cross", 0, 0);
        lay(0, 0, 0, 0);
        for (int s = 1; s < 4; s++) {
            refuse(NULL, "read", s);
        }
        make("lose", 0);
        refuse(NULL, "read", 0);
        due(1, "count", 5);
    }

    @Says("as long as each may be: how many. BAD; NULL.")
    void p13SheetsBeyond() {
        begin("m=", "a00.0");
        beyond(BAD, "read", 0, 0, 3, 0);
        for (int s = 0; s < 4; s++) {
            lay(s, 0, 0, 0);
        }
        beyond(BAD, "read", 0, 0, 3, 0);
        due(1, "read", 3);
    }
}
