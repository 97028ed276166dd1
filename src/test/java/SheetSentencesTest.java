import java.io.IOException;

/** Promises 28 to 35: sheets, and what there is of everything. */
public final class SheetSentencesTest extends Sentences {
    public static void main(String[] args) throws IOException {
        runAll(SheetSentencesTest.class, 28, 35);
    }

    /** SHEET 1 is of shorts and SHEET 2 of ints; the others are LOST, SHEET 3 behind having been of bytes. */
    private void beginSheets() {
        begin("ab", "c00.0");
        lay(1, 1, 11, 12, 13);
        lay(2, 2, 21, 22, 23);
        lay(3, 0, 31, 32, 33);
        make("lose", 3);
    }

    // ---- 28: sheet

    @Says("of 0 to 60 items (0 at first)")
    void p28LeastAndGreatest() {
        for (int form = 0; form < 3; form++) {
            begin("", "");
            due(0, "sheet", 0, form, 0);
            refuseWithFinding(LEAST, 2, "get", 0, form, 0);
            due(60, "sheet", 0, form, 60);
            due(0, "get", 0, form, 0);
            due(0, "get", 0, form, 59);
            refuseWithFinding(LEAST, 2, "get", 0, form, 60);
        }
    }

    @Says("BAD: SHEET, FORM, above 60")
    void p28Above60() {
        beginSheets();
        refuse(BAD, "sheet", 1, 1, 61);
        refuse(BAD, "sheet", 0, 0, 256);
        refuse(BAD, "sheet", 1, 1, 65536 + 3);
        refuse(BAD, "sheet", 1, 1, MOST);
        items(1, 1, 11, 12, 13);
    }

    @Says("5 SIZE: below 0")
    void p28Below0() {
        beginSheets();
        refuse(SIZE, "sheet", 1, 1, -1);
        refuse(SIZE, "sheet", 1, 2, LEAST);
        refuse(SIZE, "sheet", 0, 0, -1);
        items(1, 1, 11, 12, 13);
        refuse(NULL, "lose", 0);
    }

    @Says("SHEETS 0 .. 3")
    void p28SheetsBeyond() {
        begin("", "");
        due(1, "sheet", 0, 0, 1);
        due(1, "sheet", 3, 0, 1);
        beyond(BAD, "sheet", 0, 0, 3, 0, 0, 1);
    }

    @Says("a row of a FORM: 0 bytes, 1 shorts, 2 ints")
    void p28FormsBeyond() {
        begin("", "");
        due(1, "sheet", 0, 0, 1);
        due(1, "sheet", 2, 2, 1);
        beyond(BAD, "sheet", 1, 0, 2, 0, 0, 1);
        due(0, "get", 0, 0, 0);
        due(0, "get", 2, 2, 0);
    }

    @Says("BAD: SHEET, FORM, above 60; SIZE.")
    void p28BadIsAheadOfSize() {
        begin("", "");
        refuse(BAD, "sheet", 4, 0, -1);
        refuse(BAD, "sheet", -1, 0, -1);
        refuse(BAD, "sheet", 0, 3, -1);
        refuse(BAD, "sheet", 0, -1, LEAST);
        refuse(BAD, "sheet", 4, 3, 61);
    }

    @Says("A SHEET is a new row of a FORM with n items")
    void p28ANewRow() {
        begin("", "");
        lay(0, 2, 5, 6, 7);
        due(3, "sheet", 0, 2, 3);
        items(0, 2, 0, 0, 0);
        lay(0, 2, 5, 6, 7);
        due(0, "sheet", 0, 2, 0);
        due(3, "sheet", 0, 2, 3);
        items(0, 2, 0, 0, 0);
        lay(0, 2, 5, 6, 7);
        make("lose", 0);
        due(3, "sheet", 0, 2, 3);
        items(0, 2, 0, 0, 0);
    }

    @Says("A SHEET is a new row of a FORM")
    void p28OfAnotherForm() {
        begin("", "");
        make("sheet", 0, 0, 1);
        due(2, "sheet", 0, 1, 2);
        refuseWithFinding(LEAST, 3, "get", 0, 0, 0);
        due(0, "get", 0, 1, 1);
        due(1, "sheet", 0, 2, 1);
        refuseWithFinding(LEAST, 3, "get", 0, 1, 0);
        due(0, "get", 0, 2, 0);
    }

    @Says("A SHEET is a new row")
    void p28OneSheetAlone() {
        begin("", "");
        for (int s = 0; s < 4; s++) {
            lay(s, 2, s + 1);
        }
        make("sheet", 1, 0, 2);
        due(1, "get", 0, 2, 0);
        due(0, "get", 1, 0, 0);
        due(3, "get", 2, 2, 0);
        due(4, "get", 3, 2, 0);
    }

    // ---- 29: lose

    @Says("It is LOST: how many items it had.")
    void p29NothingAndTheMost() {
        for (int n : new int[] {0, 1, 59, 60}) {
            begin("", "");
            make("sheet", 3, 1, n);
            due(n, "lose", 3);
            refuse(NULL, "lose", 3);
        }
    }

    @Says("1 NULL: the SHEET is LOST")
    void p29LostAlready() {
        beginSheets();
        refuse(NULL, "lose", 0);
        refuse(NULL, "lose", 3);
        due(3, "lose", 1);
        refuse(NULL, "lose", 1);
    }

    @Says("It is LOST")
    void p29OneSheetAlone() {
        begin("", "");
        for (int s = 0; s < 4; s++) {
            lay(s, 0, s);
        }
        due(1, "lose", 1);
        due(0, "get", 0, 0, 0);
        due(2, "get", 2, 0, 0);
        due(3, "get", 3, 0, 0);
        refuseWithFinding(LEAST, 1, "get", 1, 0, 0);
    }

    @Says("how many items it had. BAD; NULL.")
    void p29SheetsBeyond() {
        beginSheets();
        beyond(BAD, "lose", 0, 0, 3, 0);
    }

    // ---- 30: lay

    @Says("becomes v (the lowest bits that it has)")
    void p30BytesThatWrap() {
        int[] laid = {127, 128, -128, -129, 255, 256, -1, -256, LEAST, MOST, 0x12345680};
        int[] kept = {127, -128, -128, 127, -1, 0, -1, 0, 0, -1, -128};
        laysAndKeeps(0, laid, kept);
    }

    @Says("becomes v (the lowest bits that it has)")
    void p30ShortsThatWrap() {
        int[] laid = {32767, 32768, -32768, -32769, 65535, 65536, -1, LEAST, MOST, 0x12348765, 255};
        int[] kept = {32767, -32768, -32768, 32767, -1, 0, -1, 0, -1, -30875, 255};
        laysAndKeeps(1, laid, kept);
    }

    @Says("becomes v (the lowest bits that it has)")
    void p30IntsAsTheyAre() {
        int[] all = {LEAST, MOST, 0, -1, 65536, 0x12348765};
        laysAndKeeps(2, all, all);
    }

    private void laysAndKeeps(int form, int[] laid, int[] kept) {
        begin("", "");
        make("sheet", 0, form, laid.length);
        for (int i = 0; i < laid.length; i++) {
            due(1, "lay", 0, form, i, laid[i]);
        }
        items(0, form, kept);
    }

    @Says("Item i, treated as of a FORM, becomes v")
    void p30LeastAndGreatestItem() {
        begin("", "");
        make("sheet", 1, 2, 60);
        due(1, "lay", 1, 2, 0, 7);
        due(1, "lay", 1, 2, 59, 8);
        due(7, "get", 1, 2, 0);
        due(0, "get", 1, 2, 1);
        due(0, "get", 1, 2, 58);
        due(8, "get", 1, 2, 59);
        beyond(INDEX, "lay", 2, 0, 59, 1, 2, 0, 5);
    }

    @Says("2 INDEX: there is no such item")
    void p30ItemsBeyond() {
        beginSheets();
        refuse(INDEX, "lay", 1, 1, 3, 5);
        refuse(INDEX, "lay", 1, 1, -1, 5);
        refuse(INDEX, "lay", 1, 1, 59, 5);
        make("sheet", 0, 0, 0);
        refuse(INDEX, "lay", 0, 0, 0, 5);
        items(1, 1, 11, 12, 13);
    }

    @Says("3 CAST: it has another FORM")
    void p30OfAnotherForm() {
        for (int form = 0; form < 3; form++) {
            begin("", "");
            lay(0, form, 5);
            refuse(CAST, "lay", 0, (form + 1) % 3, 0, 1);
            refuse(CAST, "lay", 0, (form + 2) % 3, 0, 1);
            due(5, "get", 0, form, 0);
        }
    }

    @Says("1. BAD; NULL; CAST; INDEX.")
    void p30Lost() {
        beginSheets();
        for (int form = 0; form < 3; form++) {
            refuse(NULL, "lay", 0, form, 0, 5);
            refuse(NULL, "lay", 3, form, 0, 5);
        }
    }

    @Says("1. BAD; NULL; CAST; INDEX.")
    void p30SheetsAndFormsBeyond() {
        beginSheets();
        beyond(BAD, "lay", 0, 0, 3, 0, 1, 0, 5);
        beyond(BAD, "lay", 1, 0, 2, 1, 0, 0, 5);
    }

    @Says("Refusals, the first that fits, in the order told at each act")
    void p30TheFirstThatFits() {
        beginSheets();
        refuse(BAD, "lay", 0, 3, 0, 5);
        refuse(BAD, "lay", 3, -1, 9, 5);
        refuse(BAD, "lay", 1, 3, 9, 5);
        refuse(NULL, "lay", 3, 1, 9, 5);
        refuse(NULL, "lay", 0, 1, -1, 5);
        refuse(CAST, "lay", 1, 0, 3, 5);
        refuse(CAST, "lay", 2, 1, -1, 5);
        refuse(INDEX, "lay", 2, 2, 3, 5);
    }

    @Says("Item i, treated as of a FORM, becomes v")
    void p30OneItemAlone() {
        beginSheets();
        due(1, "lay", 1, 1, 1, 9);
        items(1, 1, 11, 9, 13);
        items(2, 2, 21, 22, 23);
    }

    // ---- 31: get

    @Says("Item i of it.")
    void p31LeastAndGreatestItem() {
        begin("", "");
        for (int form = 0; form < 3; form++) {
            make("sheet", form, form, 60);
            make("lay", form, form, 0, 3);
            make("lay", form, form, 59, 4);
            due(3, "get", form, form, 0);
            due(4, "get", form, form, 59);
        }
        due(0, "count", 8);
    }

    @Says("BAD: the least int")
    void p31SheetsAndFormsBeyond() {
        beginSheets();
        beyond(LEAST, "get", 0, 0, 3, 0, 1, 0);
        beyond(LEAST, "get", 1, 0, 2, 1, 1, 0);
    }

    @Says("so are NULL, CAST, INDEX (count() 8 tells)")
    void p31Lost() {
        beginSheets();
        refuseWithFinding(LEAST, 1, "get", 0, 0, 0);
        refuseWithFinding(LEAST, 1, "get", 3, 0, 0);
    }

    @Says("so are NULL, CAST, INDEX (count() 8 tells)")
    void p31OfAnotherForm() {
        for (int form = 0; form < 3; form++) {
            begin("", "");
            lay(0, form, 5);
            refuseWithFinding(LEAST, 3, "get", 0, (form + 1) % 3, 0);
            refuseWithFinding(LEAST, 3, "get", 0, (form + 2) % 3, 0);
        }
    }

    @Says("so are NULL, CAST, INDEX (count() 8 tells)")
    void p31ItemsBeyond() {
        for (int item : new int[] {3, -1, 59, 60, 256, LEAST, MOST}) {
            beginSheets();
            refuseWithFinding(LEAST, 2, "get", 1, 1, item);
        }
        begin("", "");
        make("sheet", 0, 2, 0);
        refuseWithFinding(LEAST, 2, "get", 0, 2, 0);
    }

    @Says("Refusals, the first that fits, in the order told at each act")
    void p31TheFirstThatFits() {
        int[][] asked = {{0, 3, 0}, {1, 3, 9}, {3, 1, 9}, {0, 2, -1}, {1, 0, 3}, {2, 1, -1}, {2, 2, 3}};
        int[] found = {0, 0, 1, 1, 3, 3, 2};
        for (int k = 0; k < asked.length; k++) {
            beginSheets();
            refuseWithFinding(LEAST, found[k], "get", asked[k]);
        }
    }

    @Says("Item i of it. BAD: the least int")
    void p31AnItemMayBeTheLeastInt() {
        begin("", "");
        lay(0, 2, LEAST);
        due(LEAST, "get", 0, 2, 0);
        due(0, "count", 8);
    }

    // ---- 32: copy

    @Says("n items of SHEET s, from i on, come to SHEET t")
    void p32NothingAndTheMost() {
        begin("", "");
        make("sheet", 0, 1, 60);
        make("sheet", 3, 1, 60);
        for (int i = 0; i < 60; i++) {
            make("lay", 0, 1, i, i + 1);
        }
        due(1, "copy", 0, 0, 3, 0, 0);
        due(0, "get", 3, 1, 0);
        due(1, "copy", 0, 60, 3, 60, 0);
        due(1, "copy", 0, 59, 3, 0, 1);
        due(60, "get", 3, 1, 0);
        due(0, "get", 3, 1, 1);
        due(1, "copy", 0, 0, 3, 0, 60);
        for (int i = 0; i < 60; i++) {
            due(i + 1, "get", 3, 1, i);
            due(i + 1, "get", 0, 1, i);
        }
    }

    @Says("from i on, come to SHEET t (perhaps s, as they were), from j on")
    void p32FromAndTo() {
        begin("", "");
        lay(0, 0, 1, 2, 3, 4);
        lay(1, 0, 5, 6, 7);
        due(1, "copy", 0, 2, 1, 1, 2);
        items(1, 0, 5, 3, 4);
        items(0, 0, 1, 2, 3, 4);
    }

    @Says("(perhaps s, as they were)")
    void p32OntoItselfDownwards() {
        begin("", "");
        lay(0, 2, 1, 2, 3, 4, 5);
        due(1, "copy", 0, 1, 0, 0, 4);
        items(0, 2, 2, 3, 4, 5, 5);
    }

    @Says("(perhaps s, as they were)")
    void p32OntoItselfUpwards() {
        begin("", "");
        lay(0, 2, 1, 2, 3, 4, 5);
        due(1, "copy", 0, 0, 0, 1, 4);
        items(0, 2, 1, 1, 2, 3, 4);
        due(1, "copy", 0, 0, 0, 0, 5);
        items(0, 2, 1, 1, 2, 3, 4);
    }

    @Says("INDEX: below 0, not so many")
    void p32NotSoManyFrom() {
        begin("", "");
        lay(0, 0, 1, 2, 3);
        lay(1, 0, 4, 5, 6, 7, 8);
        int[][] asked = {{0, 4}, {1, 3}, {3, 1}, {4, 0}, {2, MOST}, {MOST, 1}, {MOST, MOST}};
        for (int[] one : asked) {
            refuse(INDEX, "copy", 0, one[0], 1, 0, one[1]);
        }
        due(1, "copy", 0, 3, 1, 0, 0);
        due(1, "copy", 0, 0, 1, 0, 3);
        items(1, 0, 1, 2, 3, 7, 8);
    }

    @Says("INDEX: below 0, not so many")
    void p32NotSoManyTo() {
        begin("", "");
        lay(0, 0, 1, 2, 3, 4, 5);
        lay(1, 0, 6, 7, 8);
        int[][] asked = {{0, 4}, {1, 3}, {3, 1}, {4, 0}, {2, 5}, {MOST, 1}, {MOST, 0}};
        for (int[] one : asked) {
            refuse(INDEX, "copy", 0, 0, 1, one[0], one[1]);
        }
        due(1, "copy", 0, 0, 1, 3, 0);
        due(1, "copy", 0, 0, 1, 0, 3);
        items(1, 0, 1, 2, 3);
    }

    @Says("INDEX: below 0")
    void p32Below0() {
        begin("", "");
        lay(0, 0, 1, 2, 3);
        lay(1, 0, 4, 5, 6);
        refuse(INDEX, "copy", 0, -1, 1, 0, 1);
        refuse(INDEX, "copy", 0, -1, 1, 0, 0);
        refuse(INDEX, "copy", 0, 0, 1, -1, 1);
        refuse(INDEX, "copy", 0, 0, 1, -1, 0);
        refuse(INDEX, "copy", 0, 0, 1, 0, -1);
        refuse(INDEX, "copy", 0, 1, 1, 1, -1);
        refuse(INDEX, "copy", 0, LEAST, 1, 0, 1);
        refuse(INDEX, "copy", 0, 0, 1, LEAST, LEAST);
        refuse(INDEX, "copy", 0, LEAST, 1, LEAST, LEAST);
    }

    @Says("4 STORE: unlike FORMS")
    void p32UnlikeForms() {
        begin("", "");
        for (int s = 0; s < 3; s++) {
            lay(s, s, s, s);
        }
        for (int s = 0; s < 3; s++) {
            for (int t = 0; t < 3; t++) {
                if (s != t) {
                    refuse(STORE, "copy", s, 0, t, 0, 1);
                    refuse(STORE, "copy", s, 0, t, 0, 0);
                }
            }
        }
    }

    @Says("NULL: s, t")
    void p32Lost() {
        beginSheets();
        refuse(NULL, "copy", 0, 0, 1, 0, 1);
        refuse(NULL, "copy", 1, 0, 0, 0, 1);
        refuse(NULL, "copy", 3, 0, 3, 0, 0);
        refuse(NULL, "copy", 0, 0, 3, 0, 0);
    }

    @Says("BAD: the SHEETS")
    void p32SheetsBeyond() {
        beginSheets();
        beyond(BAD, "copy", 0, 0, 3, 0, 0, 1, 0, 1);
        beyond(BAD, "copy", 2, 0, 3, 1, 0, 0, 0, 1);
    }

    @Says("BAD: the SHEETS; NULL: s, t; STORE; INDEX: below 0, not so many.")
    void p32TheFirstThatFits() {
        beginSheets();
        refuse(BAD, "copy", 4, 0, 0, 0, 1);
        refuse(BAD, "copy", 0, 0, 4, 0, 1);
        refuse(BAD, "copy", 1, -1, 4, 0, 1);
        refuse(NULL, "copy", 3, 0, 1, 0, 1);
        refuse(NULL, "copy", 1, 0, 3, 0, 1);
        refuse(NULL, "copy", 0, -1, 1, 0, 1);
        refuse(NULL, "copy", 1, 0, 0, 0, -1);
        refuse(STORE, "copy", 1, -1, 2, 0, 1);
        refuse(STORE, "copy", 1, 0, 2, 0, 4);
        refuse(STORE, "copy", 2, 0, 1, 0, -1);
    }

    // ---- 33: write

    @Says("as many as there are items and NAMES: how many")
    void p33FewerItems() {
        begin("ab", "c00.0");
        make("sheet", 0, 2, 0);
        due(0, "write", 0, 0);
        lay(0, 2, 9);
        due(1, "write", 0, 0);
        items(0, 2, 1);
        lay(0, 2, 9, 9);
        due(2, "write", 0, 0);
        items(0, 2, 1, 20);
    }

    @Says("as many as there are items and NAMES: how many")
    void p33FewerNames() {
        begin("ab", "c00.0");
        lay(0, 2, 9, 9, 9);
        due(3, "write", 0, 0);
        items(0, 2, 1, 20, 22);
        lay(0, 2, 9, 9, 9, 8, 7);
        due(3, "write", 0, 0);
        items(0, 2, 1, 20, 22, 8, 7);
        begin(".=", "");
        lay(0, 2, 9);
        due(0, "write", 0, 0);
        items(0, 2, 9);
    }

    @Says("as many as there are items and NAMES: how many")
    void p33TheMost() {
        begin("abcdefghijklmnopqrst", EIGHT);
        make("sheet", 0, 0, 60);
        make("lay", 0, 0, 28, 77);
        due(28, "write", 0, 0);
        due(1, "get", 0, 0, 0);
        due(20, "get", 0, 0, 19);
        due(22, "get", 0, 0, 20);
        due(29, "get", 0, 0, 27);
        due(77, "get", 0, 0, 28);
        make("sheet", 0, 0, 27);
        due(27, "write", 0, 0);
        due(28, "get", 0, 0, 26);
    }

    @Says("DAYS are 0 to 19.")
    void p33DaysLeastAndGreatest() {
        begin("a...................", "");
        make("sheet", 0, 1, 1);
        due(1, "write", 0, 0);
        items(0, 1, 1);
        due(1, "write", 18, 0);
        items(0, 1, 19);
        due(1, "write", 19, 0);
        items(0, 1, 20);
        beyond(BAD, "write", 0, 0, 19, 0, 0);
    }

    @Says("0 bytes, 1 shorts, 2 ints")
    void p33OfEachForm() {
        for (int form = 0; form < 3; form++) {
            begin("m=", "a00.0;b00.0");
            make("cross", 0, 1);
            make("angle", 1, 0);
            lay(3, form, 9, 9, 9, 9);
            due(3, "write", 0, 3);
            items(3, form, 23, 22, 0, 9);
            due(3, "write", 1, 3);
            items(3, form, 23, 22, 21, 9);
        }
    }

    @Says("BAD; NULL.")
    void p33Lost() {
        beginSheets();
        refuse(NULL, "write", 0, 0);
        refuse(NULL, "write", 19, 3);
    }

    @Says("how many. BAD; NULL.")
    void p33SheetsBeyondAndBadAheadOfNull() {
        beginSheets();
        beyond(BAD, "write", 1, 0, 3, 0, 1);
        refuse(BAD, "write", 20, 0);
        refuse(BAD, "write", -1, 3);
        refuse(BAD, "write", 20, 1);
        items(1, 1, 11, 12, 13);
    }

    // ---- 34: count

    @Says("0 CELLS, 1 PEOPLE, 2, 3 bytes of texts, 4 NAMES, 5 CROSSINGS, 6 CATCHES and FLOODS together, 7 SEEN")
    void p34EachOfThem() {
        begin("ab.", "c00.0;d00.0");
        int[] told = {3, 2, 3, 11, 4, 0, 0, 0, 0};
        counts(told);
        make("cross", 0, 0);
        told[5] = 1;
        counts(told);
        make("angle", 0, 0);
        make("angle", 0, 0);
        told[6] = 2;
        counts(told);
        make("flood", 0);
        told[6] = 3;
        counts(told);
        make("seen", 0, 0, 0);
        told[7] = 1;
        counts(told);
    }

    private void counts(int... want) {
        for (int what = 0; what < want.length; what++) {
            due(want[what], "count", what);
        }
    }

    @Says("0 CELLS, 1 PEOPLE")
    void p34NothingAndTheMost() {
        begin("", "");
        counts(0, 0, 0, 0, 0, 0, 0, 0, 0);
        beginFull();
        counts(20, 8, 20, 47, 24, 16, 14, 8, 0);
        begin("abcdefghijklmnopqrst", EIGHT);
        counts(20, 8, 20, 47, 28, 0, 0, 0, 0);
    }

    @Says("With a FAULT a text is as if it was empty.")
    void p34WithAFault() {
        begin("ab;", "c00.0");
        counts(0, 1, 3, 5, 1);
        begin("ab", "c00.0;");
        counts(2, 0, 2, 6, 2);
    }

    @Says("8 the number of the latest FINDING (0 before any)")
    void p34TheLatestFinding() {
        beginSheets();
        refuse(SIZE, "sheet", 1, 1, -1);
        refuse(NULL, "lose", 0);
        refuse(STORE, "copy", 1, 0, 2, 0, 1);
        refuse(CAST, "lay", 1, 0, 0, 0);
        refuse(INDEX, "lay", 1, 1, 3, 0);
        refuseWithFinding(LEAST, 3, "get", 1, 2, 0);
    }

    @Says("They change nothing (FINDINGS but count() 8).")
    void p34OtherAnswersLeaveTheFinding() {
        beginSheets();
        refuse(CAST, "lay", 1, 0, 0, 0);
        refuse(BAD, "type", 2, 0);
        refuse(NOT, "back", 0);
        refuse(BAD, "lay", 4, 0, 0, 0);
        refuseWithFinding(LEAST, 3, "get", 4, 0, 0);
        make("lay", 1, 1, 0, 5);
        make("sheet", 0, 0, 1);
        make("wipe", 0);
        due(3, "count", 8);
    }

    @Says("answers -10 less the number")
    void p34AnswersOfFindings() {
        beginSheets();
        refuse(-11, "lose", 0);
        refuse(-12, "lay", 1, 1, 9, 0);
        refuse(-13, "lay", 1, 0, 0, 0);
        refuse(-14, "copy", 1, 0, 2, 0, 0);
        refuse(-15, "sheet", 0, 0, -1);
    }

    @Says("8 the number of the latest FINDING (0 before any). BAD.")
    void p34WhatsBeyond() {
        begin("ab", "c00.0");
        beyond(BAD, "count", 0, 0, 8, 0);
    }

    // ---- 35: digest

    private long hash = 17;

    private void add(String call, int... a) {
        hash = 31 * hash + make(call, a);
    }

    /** The document's list, asked call by call. */
    private void digestIsAsAsked() {
        hash = 17;
        int cells = (int) make("count", 0);
        int people = (int) make("count", 1);
        int names = (int) make("count", 4);
        int crossings = (int) make("count", 5);
        for (int what = 0; what < 8; what++) {
            add("count", what);
        }
        add("fault", 0);
        add("fault", 1);
        for (int c = 0; c < cells; c++) {
            add("cell", c);
        }
        for (int p = 0; p < people; p++) {
            addAsCalled(p);
        }
        for (int p = 0; p < people; p++) {
            add("returns", p, 2, 9, NONE);
            add("returns", p, 2, 9, 0);
            add("lucky", p);
            add("flooded", 5, 6, p, 2, 0);
            add("flooded", 5, 6, p, 2, 1);
            add("crowd", 7, 19, p);
        }
        for (int n = 0; n < names; n++) {
            add("name", 9, n, 0);
            add("name", 9, n, 1);
            add("name", 9, n, 2);
            add("name", 19, n, 0);
        }
        for (int k = 0; k < crossings; k++) {
            add("changes", k);
        }
        addTheRest();
        due(hash, "digest");
    }

    private void addAsCalled(int person) {
        for (int what = 0; what < 4; what++) {
            add("person", person, what);
        }
        for (int day : new int[] {3, 19}) {
            for (int what = 0; what < 4; what++) {
                add("called", day, person, what);
            }
        }
    }

    private void addTheRest() {
        add("same", 9);
        add("first", 0);
        add("first", 1);
        add("net", 2, NONE);
        add("net", 2, 0);
        add("never");
        add("ask", 9);
        add("crowd", 7, 19, NONE);
    }

    @Says("h is 17; h becomes 31 h and each of")
    void p35OfANewObject() {
        begin("", "");
        digestIsAsAsked();
        long h = 17;
        for (int one : new int[] {0, 0, 0, 0, 0, 0, 0, 0, NONE, NONE, 0, NONE, NONE, NONE, NONE, 0, NONE, 0}) {
            h = 31 * h + one;
        }
        due(h, "digest");
    }

    @Says("as longs that wrap")
    void p35OfTheMost() {
        begin("abcdefghijklmnopqrst", EIGHT);
        for (int k = 0; k < 16; k++) {
            make("cross", k / 4, k % 8);
        }
        make("angle", 0, 3);
        make("flood", 1);
        make("seen", 0, 3, 2);
        digestIsAsAsked();
    }

    @Says("of PEOPLE returns(it, 2, 9, NONE and 0), lucky(), flooded(5, 6, it, 2), above, below, crowd(7, 19, it)")
    void p35OfAHeldBridge() {
        begin("c=b..a", "c10.3;b2000;a30.1;c9920");
        make("cross", 3, 0);
        make("cross", 4, 1);
        make("cross", 8, 2);
        make("cross", 12, 1);
        make("angle", 10, 0);
        make("angle", 2, 3);
        make("flood", 1);
        make("seen", 5, 1, 2);
        make("wear", 2);
        digestIsAsAsked();
    }

    @Says("of texts fault()")
    void p35WithFaults() {
        begin("ab;", "c00.0;d00.0;");
        make("cross", 0, 0);
        digestIsAsAsked();
    }

    @Says("of DAYS 3, 19 called(the DAY, it, 0 to 3)")
    void p35CalledOnItsDays() {
        begin("c=", "a10.1;b2000");
        make("cross", 3, 0);
        make("cross", 4, 0);
        make("cross", 19, 1);
        digestIsAsAsked();
    }

    @Says("name(9, it, 0 to 2), name(19, it, 0)")
    void p35NamesOnTheirDays() {
        begin("b...................", "");
        make("wear", 10);
        digestIsAsAsked();
    }

    @Says("returns(it, 2, 9, NONE and 0)")
    void p35ReturnsByDay9() {
        begin("c=", "a00.0");
        make("cross", 9, 0);
        make("cross", 10, 0);
        due(1, "returns", 0, 2, 8, NONE);
        due(0, "returns", 0, 2, 9, NONE);
        due(1, "returns", 0, 2, 10, NONE);
        digestIsAsAsked();
    }

    @Says("flooded(5, 6, it, 2), above, below")
    void p35FloodedByDay6() {
        begin("c=", "a00.0");
        make("cross", 6, 0);
        make("cross", 7, 0);
        due(0, "flooded", 5, 5, 0, 2, 0);
        due(1, "flooded", 5, 6, 0, 2, 0);
        due(0, "flooded", 5, 7, 0, 2, 0);
        digestIsAsAsked();
    }

    @Says("crowd(7, 19, it)")
    void p35CrowdByDay19() {
        begin("c=", EIGHT);
        digestIsAsAsked();
        begin("c=", "c00.0;b00.0");
        due(1, "crowd", 7, 19, NONE);
        due(2, "crowd", 7, 18, NONE);
        due(2, "crowd", 6, 19, NONE);
        digestIsAsAsked();
    }

    @Says("same(9)")
    void p35SameOnDay9() {
        begin("b=", "a00.0;b00.0");
        make("cross", 9, 0);
        make("cross", 10, 0);
        due(0, "same", 8);
        due(1, "same", 9);
        due(0, "same", 10);
        digestIsAsAsked();
    }

    @Says("net(2, NONE and 0)")
    void p35NetOnDay2() {
        for (String river : new String[] {"a.", "a..", "ab.="}) {
            begin(river, "k40.0");
            make("cross", 0, 0);
            digestIsAsAsked();
        }
        begin("m=", "a10.0;b90.0");
        make("cross", 0, 0);
        make("cross", 3, 1);
        make("angle", 19, 0);
        due(1, "net", 2, 0);
        due(0, "net", 3, 0);
        digestIsAsAsked();
    }

    @Says("never(), ask(9)")
    void p35AskOnDay9() {
        begin("m=", "a00.0;b00.0");
        make("cross", 9, 1);
        make("cross", 10, 1);
        due(0, "ask", 8);
        due(1, "ask", 9);
        due(0, "ask", 10);
        digestIsAsAsked();
    }

    @Says("count() 0 to 7")
    void p35FindingsAndSheetsAreNotInIt() {
        beginFull();
        long before = make("digest");
        refuse(NULL, "lose", 0);
        due(before, "digest");
        make("lay", 1, 1, 0, 99);
        make("sheet", 2, 2, 9);
        due(before, "digest");
    }

    @Says("`long digest()`")
    void p35NothingIsChanged() {
        beginFull();
        long before = make("digest");
        due(before, "digest");
        due(8, "wear", 8);
        due(16, "count", 5);
        due(0, "count", 8);
    }
}
