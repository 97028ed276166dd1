import java.io.IOException;

/** Promises 14 to 20: days and plans. */
public final class DaysSentencesTest extends Sentences {
    public static void main(String[] args) throws IOException {
        runAll(DaysSentencesTest.class, 14, 20);
    }

    /** The weir holds one NAME at the bridge, which goes from hand to hand. */
    private void beginHeld() {
        begin("m=", "a10.3;b2000;c30.1");
        make("cross", 0, 0);
        make("cross", 2, 1);
        make("cross", 5, 0);
    }

    // ---- 14: called

    @Says("DAYS are 0 to 19.")
    void p14DaysLeastAndGreatest() {
        begin("m=", "a00.0;b00.0");
        make("cross", 0, 0);
        make("cross", 19, 1);
        due(0, "called", 0, 0, 0);
        due(2, "called", 18, 1, 0);
        due(1, "called", 19, 1, 0);
        beyond(BAD, "called", 0, 0, 19, 0, 0, 0);
    }

    @Says("Behind a DAY: of one of PEOPLE which NAME it has")
    void p14BehindADayAndNotSooner() {
        beginHeld();
        int[][] names = {{0, 2, 3}, {0, 2, 3}, {0, 1, 3}, {0, 1, 3}, {0, 1, 3}, {2, 1, 3}, {2, 1, 3}};
        for (int day = 0; day < names.length; day++) {
            for (int p = 0; p < 3; p++) {
                due(names[day][p], "called", day, p, 0);
            }
        }
    }

    @Says("of one of PEOPLE which NAME it has")
    void p14PeopleBeyond() {
        begin("m", EIGHT);
        due(1, "called", 0, 0, 0);
        due(8, "called", 0, 7, 0);
        beyond(BAD, "called", 1, 0, 7, 0, 0, 0);
        begin("m", "a00.0;b00.0");
        due(2, "called", 0, 1, 0);
        refuse(BAD, "called", 0, 2, 0);
        begin("m", "");
        refuse(BAD, "called", 0, 0, 0);
    }

    @Says("Which NAME it has (what = 0), the letter by which it is CALLED (1), how much it OWES (2), its SPOUSE (3; NONE).")
    void p14EachWhat() {
        begin("x.y", "a10.3;z9900");
        int[][] all = {{2, 0, 10, NONE}, {3, 25, 99, 0}};
        for (int p = 0; p < 2; p++) {
            for (int what = 0; what < 4; what++) {
                due(all[p][what], "called", 0, p, what);
            }
        }
        beyond(BAD, "called", 2, 0, 3, 0, 0, 0);
    }

    @Says("NAMES are numbered: those of THE RIVER first, as they come, then those of PEOPLE (0 to 27)")
    void p14NumbersLeastAndGreatest() {
        begin("abcdefghijklmnopqrst", EIGHT);
        due(20, "called", 0, 0, 0);
        due(27, "called", 19, 7, 0);
        make("cross", 0, 7);
        due(0, "called", 19, 7, 0);
        begin("", EIGHT);
        due(0, "called", 0, 0, 0);
        due(7, "called", 0, 7, 0);
    }

    @Says("if there are none, or CELL 0 is a weir, or there is no CELL, it keeps its own")
    void p14NoneLiesAtTheBridge() {
        for (String river : new String[] {".m", "~m", ".", "~="}) {
            begin(river, "a00.0");
            make("cross", 0, 0);
            make("cross", 1, 0);
            due(0, "called", 19, 0, 1);
        }
    }

    @Says("or CELL 0 is a weir")
    void p14AWeirAtTheBridge() {
        for (String river : new String[] {"=", "=m", "=="}) {
            begin(river, "a00.0");
            make("cross", 0, 0);
            make("cross", 1, 0);
            due(0, "called", 19, 0, 1);
        }
    }

    @Says("or there is no CELL, it keeps its own")
    void p14NoCell() {
        begin("", "a00.0");
        make("cross", 0, 0);
        due(0, "called", 0, 0, 0);
        due(0, "called", 19, 0, 1);
    }

    @Says("if there are none")
    void p14TheBridgeIsEmptiedByACatch() {
        begin("m=", "a00.0;b00.0");
        make("cross", 1, 0);
        make("angle", 1, 0);
        make("cross", 2, 1);
        due(12, "called", 19, 0, 1);
        due(1, "called", 19, 1, 1);
    }

    @Says("Then all that is in CELLS drifts")
    void p14TheBridgeIsEmptiedByDrifting() {
        for (String river : new String[] {"m", "m.", "m~", "ma"}) {
            begin(river, "a00.0;b00.0");
            make("cross", 0, 0);
            make("cross", 1, 1);
            due(12, "called", 19, 0, 1);
            due(1, "called", 19, 1, 1);
        }
    }

    @Says("the one of number LUCK modulo n")
    void p14WhateverTheLuck() {
        for (int luck = 0; luck < 10; luck++) {
            begin("m=", "a00." + luck + ";b00." + (9 - luck));
            make("cross", 0, 0);
            make("cross", 19, 1);
            due(12, "called", 0, 0, 1);
            due(0, "called", 19, 1, 1);
        }
    }

    @Says("what it OWES (0, in THE RIVER)")
    void p14ANameOfTheRiverOwesNothing() {
        begin("m=", "a99.0;b07.0");
        make("cross", 3, 0);
        make("cross", 4, 1);
        due(99, "called", 2, 0, 2);
        due(0, "called", 3, 0, 2);
        due(7, "called", 3, 1, 2);
        due(99, "called", 4, 1, 2);
    }

    @Says("what it OWES (0, in THE RIVER)")
    void p14ANameOfTheRiverTypedLaterOwesNothing() {
        begin("", "a99.0;b98.0");
        due(99, "called", 0, 0, 2);
        type(0, "m=n");
        make("cross", 0, 0);
        due(0, "called", 0, 0, 2);
        due(98, "called", 0, 1, 2);
        due(99, "net", 0, NONE);
    }

    @Says("(of a NAME of THE RIVER: nobody; NONE)")
    void p14NoSpouseByANameOfTheRiver() {
        begin("m=", "a0010;b0000");
        due(1, "called", 0, 0, 3);
        make("cross", 0, 0);
        due(NONE, "called", 0, 0, 3);
    }

    @Says("who has the NAME of the one to whom that one is WED whose NAME it has")
    void p14SpouseByTheNameOneHas() {
        begin("m=", "a0010;b00.0;c00.0");
        make("cross", 0, 0);
        make("cross", 0, 2);
        // the third has the NAME of the first, who is wed to the second
        due(1, "called", 0, 2, 3);
        due(NONE, "called", 0, 0, 3);
        due(NONE, "called", 0, 1, 3);
    }

    @Says("who has the NAME of the one to whom that one is WED whose NAME it has")
    void p14SpouseIsWhoHasTheName() {
        begin("m=", "a0010;b00.0;c00.0");
        make("cross", 0, 1);
        make("cross", 1, 2);
        due(NONE, "called", 0, 0, 3);
        due(2, "called", 1, 0, 3);
    }

    @Says("(to whom it is WED; nobody)")
    void p14WedToNobody() {
        begin("", "a00.0;b00.0");
        due(NONE, "called", 0, 0, 3);
        due(NONE, "called", 0, 1, 3);
    }

    @Says("a figure 0 to 7")
    void p14WedToOneWhoIsNotThere() {
        begin("m", "a0020;b0070");
        due(NONE, "called", 0, 0, 3);
        due(NONE, "called", 0, 1, 3);
        begin("abcdefghijklmnopqrst", "a00.0;b00.0;c00.0;d00.0;e00.0;f00.0;g0070");
        due(NONE, "called", 0, 6, 3);
        type(1, ";h00.0");
        due(7, "called", 0, 6, 3);
    }

    @Says("who has the NAME of the one to whom that one is WED whose NAME it has")
    void p14WedToOneself() {
        begin("m=", "a0000;b00.0");
        due(0, "called", 0, 0, 3);
        make("cross", 0, 0);
        make("cross", 0, 1);
        due(1, "called", 0, 1, 3);
    }

    @Says("who has the NAME of the one to whom that one is WED whose NAME it has")
    void p14TheSpousesNameIsInTheWater() {
        String[] rivers = {"m=", "m", "m="};
        for (int k = 0; k < 3; k++) {
            begin(rivers[k], "a0010;b00.0");
            make("cross", 0, 1);
            if (k == 2) {
                make("angle", 0, 0);
            }
            due(new int[] {0, 20, 21}[k], "name", 0, 2, 0);
            due(NONE, "called", 0, 0, 3);
        }
    }

    // ---- 15: name

    @Says("DAYS are 0 to 19.")
    void p15DaysLeastAndGreatest() {
        begin("a...................", "");
        due(1, "name", 0, 0, 0);
        due(19, "name", 18, 0, 0);
        due(20, "name", 19, 0, 0);
        beyond(BAD, "name", 0, 0, 19, 0, 0, 0);
    }

    @Says("BAD: no such NAME")
    void p15NamesBeyond() {
        begin("abcdefghijklmnopqrst", EIGHT);
        due(0, "name", 0, 0, 2);
        due(7, "name", 0, 27, 2);
        beyond(BAD, "name", 1, 0, 27, 0, 0, 0);
        begin("a.b", "c00.0");
        due(2, "name", 0, 2, 2);
        refuse(BAD, "name", 0, 3, 0);
        refuse(BAD, "name", 0, 27, 0);
        begin("", "");
        refuse(BAD, "name", 0, 0, 0);
        begin(".~=", "");
        refuse(BAD, "name", 0, 0, 0);
    }

    @Says("Where a NAME is (what = 0), how WORN (1), its letter (2).")
    void p15EachWhat() {
        begin("m=dx....", "");
        due(5, "name", 2, 1, 0);
        due(3, "name", 2, 1, 1);
        due(3, "name", 2, 1, 2);
        due(0, "name", 2, 0, 0);
        beyond(BAD, "name", 2, 0, 2, 0, 0, 0);
    }

    @Says("(0 to 19 a CELL, 20 the SEA, 21 SOLD, 22 and more: one of PEOPLE)")
    void p15LeastAndGreatestPlaces() {
        begin("m=.................z", EIGHT);
        due(0, "name", 19, 0, 0);
        due(20, "name", 0, 1, 0);
        due(22, "name", 0, 2, 0);
        due(29, "name", 0, 9, 0);
        make("angle", 0, 19);
        due(21, "name", 0, 1, 0);
        begin("a..................~", "");
        due(19, "name", 18, 0, 0);
        due(19, "name", 19, 0, 0);
    }

    @Says("22 and more: one of PEOPLE")
    void p15WhoHasIt() {
        begin("m=", EIGHT);
        make("cross", 0, 7);
        make("cross", 1, 0);
        due(29, "name", 0, 0, 0);
        due(0, "name", 0, 8, 0);
        due(22, "name", 1, 8, 0);
        due(0, "name", 1, 1, 0);
    }

    @Says("how WORN it is (0 at first)")
    void p15NotWorn() {
        begin("m=", "a00.0;b00.0");
        make("cross", 3, 0);
        for (int n = 0; n < 3; n++) {
            due(0, "name", 0, n, 1);
            due(0, "name", 19, n, 1);
        }
    }

    @Says("Each time it drifts a NAME is 1 more WORN")
    void p15WornByEachDrift() {
        begin("a...................", "");
        for (int day = 0; day < 20; day++) {
            due(day + 1, "name", day, 0, 1);
            due(day + 1, "name", day, 0, 0);
        }
    }

    @Says("(beyond the last one into the SEA)")
    void p15IntoTheSea() {
        begin("a", "");
        due(20, "name", 0, 0, 0);
        due(1, "name", 0, 0, 1);
        due(20, "name", 19, 0, 0);
        due(1, "name", 19, 0, 1);
        begin("a.", "");
        due(1, "name", 0, 0, 0);
        due(20, "name", 1, 0, 0);
    }

    @Says("into the next CELL, if that is no weir")
    void p15HeldByAWeir() {
        begin("a.=", "");
        due(1, "name", 0, 0, 0);
        due(1, "name", 1, 0, 0);
        due(1, "name", 19, 0, 0);
        due(1, "name", 19, 0, 1);
        begin("=a", "");
        due(20, "name", 0, 0, 0);
        begin("a=b", "");
        due(0, "name", 19, 0, 0);
        due(0, "name", 19, 0, 1);
        due(20, "name", 0, 1, 0);
    }

    @Says("from a slow CELL on even DAYS alone")
    void p15SlowCells() {
        begin("a~.~..", "");
        int[] where = {1, 1, 2, 3, 4, 5, 20};
        int[] worn = {1, 1, 2, 3, 4, 5, 6};
        for (int day = 0; day < where.length; day++) {
            due(where[day], "name", day, 0, 0);
            due(worn[day], "name", day, 0, 1);
        }
        begin("a~", "");
        due(1, "name", 1, 0, 0);
        due(20, "name", 2, 0, 0);
        begin("a~=", "");
        due(1, "name", 2, 0, 0);
        due(1, "name", 19, 0, 1);
    }

    @Says("from the last CELL to the first, in each as they came")
    void p15EachDriftsOnceADay() {
        begin("abc.", "");
        int[] where = {1, 2, 3};
        for (int n = 0; n < 3; n++) {
            due(where[n], "name", 0, n, 0);
            due(1, "name", 0, n, 1);
        }
    }

    @Says("What comes into a CELL comes behind all that is in it.")
    void p15BehindAllThatIsThere() {
        begin("ab=", "k00.0");
        make("cross", 0, 0);
        make("angle", 1, 1);
        due(21, "name", 1, 1, 0);
        due(1, "name", 1, 2, 0);
        make("angle", 2, 1);
        due(21, "name", 2, 2, 0);
        begin(".ab~.", "");
        make("angle", 2, 3);
        // b has lain in the slow CELL since DAY 0, a came on DAY 1
        due(3, "name", 1, 0, 0);
        due(3, "name", 1, 1, 0);
        due(21, "name", 2, 1, 0);
        due(4, "name", 2, 0, 0);
    }

    @Says("in each as they came")
    void p15TheyDriftAsTheyCame() {
        begin(".ab~.=", "");
        make("angle", 3, 4);
        due(4, "name", 2, 0, 0);
        due(4, "name", 2, 1, 0);
        due(21, "name", 3, 1, 0);
        due(4, "name", 3, 0, 0);
    }

    @Says("Then all that is in CELLS drifts")
    void p15SoldAndSeaDriftNoMore() {
        begin("a.b", "");
        make("angle", 1, 1);
        due(21, "name", 1, 0, 0);
        due(1, "name", 1, 0, 1);
        due(21, "name", 19, 0, 0);
        due(1, "name", 19, 0, 1);
        due(20, "name", 19, 1, 0);
        due(1, "name", 19, 1, 1);
    }

    @Says("its letter")
    void p15LettersLeastAndGreatest() {
        begin("az", "a00.0;z00.0");
        int[] letters = {0, 25, 0, 25};
        for (int n = 0; n < 4; n++) {
            due(letters[n], "name", 0, n, 2);
        }
    }

    // ---- 16: same

    @Says("SAME: pairs of PEOPLE who are CALLED alike: how many")
    void p16NothingAndTheMost() {
        begin("aa", "");
        due(0, "same", 0);
        begin("a", "a00.0");
        due(0, "same", 0);
        begin("", "a00.0;a00.0");
        due(1, "same", 0);
        begin("", "a00.0;a00.0;a00.0;a00.0;a00.0;a00.0;a00.0;a00.0");
        due(28, "same", 0);
        due(28, "same", 19);
        begin("", EIGHT);
        due(0, "same", 0);
    }

    @Says("pairs of PEOPLE who are CALLED alike")
    void p16PairsAndNotPeople() {
        begin("", "a00.0;b00.0;a00.0;b00.0;a00.0");
        due(4, "same", 0);
    }

    @Says("Behind a DAY")
    void p16BehindADayAndNotSooner() {
        begin("b=", "a00.0;b00.0");
        make("cross", 19, 0);
        due(0, "same", 0);
        due(0, "same", 18);
        due(1, "same", 19);
    }

    @Says("SAME: how many. BAD.")
    void p16DaysBeyond() {
        begin("", "a00.0;a00.0");
        due(1, "same", 0);
        due(1, "same", 19);
        beyond(BAD, "same", 0, 0, 19, 0);
    }

    // ---- 17: first

    @Says("FIRST: the DAY behind which there is one first")
    void p17DaysLeastAndGreatest() {
        begin("b=", "a00.0;b00.0");
        make("cross", 0, 0);
        due(0, "first", 0);
        begin("b=", "a00.0;b00.0");
        make("cross", 19, 0);
        due(19, "first", 0);
        due(1, "first", 1);
    }

    @Says("which, the least, as 8 times the lesser and the greater")
    void p17PairsLeastAndGreatest() {
        begin("", "a00.0;a00.0;c00.0");
        due(1, "first", 1);
        begin("", "a00.0;b00.0;c00.0;d00.0;e00.0;f00.0;g00.0;g00.0");
        due(55, "first", 1);
        begin("", "a00.0;b00.0;c00.0;d00.0;e00.0;f00.0;g00.0;a00.0");
        due(7, "first", 1);
    }

    @Says("which, the least")
    void p17TheLeastOfSeveral() {
        begin("", "a00.0;b00.0;b00.0;a00.0");
        due(3, "first", 1);
        begin("", "z00.0;b00.0;a00.0;a00.0;b00.0");
        due(12, "first", 1);
    }

    @Says("FIRST: the DAY behind which there is one first; which, the least")
    void p17ThePairOfThatDay() {
        begin("c=", "a00.0;b00.0;c00.0");
        make("cross", 7, 0);
        make("cross", 4, 1);
        // behind DAY 4 the second is called c; on DAY 7 the first is called b, as nobody else is
        due(4, "first", 0);
        due(10, "first", 1);
        begin("c=", "a00.0;b00.0;c00.0;d00.0;c00.0");
        make("cross", 7, 0);
        due(0, "first", 0);
        due(20, "first", 1);
    }

    @Says("FIRST: the DAY (what = 0), which (1); NONE.")
    void p17ThereIsNone() {
        begin("", EIGHT);
        due(NONE, "first", 0);
        due(NONE, "first", 1);
        begin("aa", "a00.0");
        due(NONE, "first", 0);
        due(NONE, "first", 1);
        begin("aa", "");
        due(NONE, "first", 0);
        due(NONE, "first", 1);
    }

    @Says("which (1); NONE. BAD.")
    void p17WhatsBeyond() {
        begin("", "a00.0;a00.0");
        due(0, "first", 0);
        beyond(BAD, "first", 0, 0, 1, 0);
        begin("", "");
        beyond(BAD, "first", 0, 0, 1, 0);
    }

    // ---- 18: changes

    @Says("BAD: no such")
    void p18CrossingsBeyond() {
        begin("m=", "a00.0");
        refuse(BAD, "changes", 0);
        make("cross", 0, 0);
        due(1, "changes", 0);
        refuse(BAD, "changes", 1);
        for (int i = 2; i <= 16; i++) {
            make("cross", 0, 0);
        }
        due(1, "changes", 15);
        beyond(BAD, "changes", 0, 0, 15, 0);
        refuse(BAD, "changes", 32);
        make("back", 0);
        refuse(BAD, "changes", 15);
    }

    @Says("Whether a CROSSING CHANGES one's NAME: 1, 0.")
    void p18EachCrossingByItself() {
        begin("m", "a00.0;b00.0");
        make("cross", 1, 0);
        make("cross", 0, 1);
        make("cross", 0, 2);
        make("cross", 0, 0);
        int[] changes = {0, 1, 0, 1};
        for (int k = 0; k < 4; k++) {
            due(changes[k], "changes", k);
        }
    }

    @Says("it keeps its own")
    void p18NothingToTake() {
        for (String river : new String[] {"", "=", ".", "~", "=m", ";"}) {
            begin(river, "a00.0");
            make("cross", 0, 0);
            due(0, "changes", 0);
        }
    }

    @Says("whether it CHANGES one's NAME")
    void p18AnotherNameOfTheSameLetter() {
        begin("a", "a00.0");
        make("cross", 0, 0);
        due(1, "changes", 0);
        due(0, "called", 0, 0, 1);
        due(0, "called", 0, 0, 0);
    }

    @Says("whether it CHANGES one's NAME")
    void p18BackToOnesOwn() {
        begin("m=", "a00.0");
        make("cross", 2, 0);
        make("cross", 8, 0);
        due(1, "changes", 0);
        due(1, "changes", 1);
        due(1, "called", 19, 0, 0);
    }

    // ---- 19: returns

    @Says("BACK: how many (i = NONE), the i-th (0, 1; NONE); NONE.")
    void p19NoneIsNeeded() {
        beginHeld();
        due(0, "returns", 2, 2, 5, NONE);
        due(NONE, "returns", 2, 2, 5, 0);
        due(NONE, "returns", 2, 2, 5, 1);
    }

    @Says("BACK: how many (i = NONE), the i-th (0, 1; NONE); NONE.")
    void p19OneIsNeeded() {
        beginHeld();
        due(1, "returns", 2, 12, 5, NONE);
        due(5, "returns", 2, 12, 5, 0);
        due(NONE, "returns", 2, 12, 5, 1);
    }

    /** The second gets m by DAY 3 if it crosses on DAYS 0 and 2, behind the first, and not by one more. */
    private void beginTwoNeeded() {
        begin("m=", "a00.0;b00.0;c00.0");
        make("cross", 2, 0);
        make("cross", 3, 1);
    }

    @Says("of like ones the least row of DAYS (each later than the one ahead)")
    void p19TwoAreNeeded() {
        beginTwoNeeded();
        due(2, "returns", 1, 12, 3, NONE);
        due(0, "returns", 1, 12, 3, 0);
        due(2, "returns", 1, 12, 3, 1);
    }

    @Says("each on a DAY no later")
    void p19TheSecondOnTheDayItself() {
        begin("m=", "a00.0;b00.0;c00.0");
        make("cross", 2, 1);
        make("cross", 2, 2);
        due(2, "returns", 2, 12, 2, NONE);
        due(0, "returns", 2, 12, 2, 0);
        due(2, "returns", 2, 12, 2, 1);
    }

    @Says("(each later than the one ahead)")
    void p19TheSecondADayLater() {
        begin("m=", "a00.0;b00.0;c00.0");
        make("cross", 1, 2);
        make("cross", 3, 0);
        due(2, "returns", 0, 12, 3, NONE);
        due(0, "returns", 0, 12, 3, 0);
        due(1, "returns", 0, 12, 3, 1);
        begin("m=", "a00.0;b00.0;c00.0");
        make("cross", 3, 1);
        make("cross", 2, 1);
        make("cross", 3, 2);
        due(2, "returns", 2, 1, 3, NONE);
        due(2, "returns", 2, 1, 3, 0);
        due(3, "returns", 2, 1, 3, 1);
    }

    @Says("the fewest CROSSINGS more of it (0 to 2;")
    void p19ThreeAreTooMany() {
        begin("m=", "a00.0;b00.0;c00.0");
        make("cross", 4, 2);
        make("cross", 2, 0);
        make("cross", 3, 1);
        make("cross", 4, 1);
        due(NONE, "returns", 1, 12, 6, NONE);
        due(NONE, "returns", 1, 12, 6, 0);
        due(NONE, "returns", 1, 12, 6, 1);
        make("cross", 0, 1);
        make("cross", 2, 1);
        make("cross", 4, 1);
        due(12, "called", 6, 1, 1);
    }

    @Says("whatever room there is for them")
    void p19WhateverRoomThereIs() {
        beginTwoNeeded();
        for (int i = 3; i <= 16; i++) {
            make("cross", 19, 7);
        }
        due(2, "returns", 1, 12, 3, NONE);
        due(2, "returns", 1, 12, 3, 1);
        due(1, "returns", 2, 12, 0, NONE);
        due(16, "count", 5);
        make("back", 0);
        due(2, "returns", 1, 12, 3, NONE);
    }

    @Says("told behind all others")
    void p19BehindAllOthers() {
        begin("m=", "a00.0;b00.0");
        make("cross", 0, 1);
        due(1, "returns", 0, 1, 0, NONE);
        due(0, "returns", 0, 1, 0, 0);
        due(NONE, "returns", 0, 12, 0, NONE);
    }

    @Says("each on a DAY no later")
    void p19OnTheDayItselfAndNoLater() {
        begin("m=", "a00.0;b00.0");
        make("cross", 19, 1);
        due(NONE, "returns", 0, 1, 18, NONE);
        due(1, "returns", 0, 1, 19, NONE);
        due(19, "returns", 0, 1, 19, 0);
    }

    @Says("(each later than the one ahead)")
    void p19NotTwoOnADay() {
        begin("m=", "a00.0;b00.0");
        make("cross", 0, 0);
        due(1, "returns", 0, 0, 0, NONE);
        due(0, "returns", 0, 12, 0, NONE);
        due(NONE, "returns", 0, 1, 0, NONE);
    }

    @Says("of like ones the least row of DAYS")
    void p19TheLeastDay() {
        begin("m=", "a00.0;b00.0");
        due(1, "returns", 0, 12, 19, NONE);
        due(0, "returns", 0, 12, 19, 0);
        make("cross", 4, 1);
        due(4, "returns", 0, 1, 19, 0);
    }

    @Says("by which it is CALLED so behind that DAY")
    void p19BehindThatDayAndNotBetween() {
        begin("m=", "a00.0;b00.0");
        make("cross", 3, 0);
        due(1, "returns", 0, 12, 2, NONE);
        due(0, "returns", 0, 12, 3, NONE);
        due(1, "returns", 0, 0, 3, NONE);
        due(0, "returns", 0, 0, 3, 0);
        due(0, "returns", 0, 0, 2, NONE);
    }

    @Says("by which it is CALLED so behind that DAY")
    void p19WhatIsToldForTheNextDay() {
        begin("m=", "a00.0");
        make("cross", 1, 0);
        due(1, "returns", 0, 0, 1, NONE);
        due(0, "returns", 0, 0, 1, 0);
        begin("m", "a00.0");
        make("cross", 1, 0);
        due(1, "returns", 0, 12, 1, NONE);
        due(0, "returns", 0, 12, 1, 0);
        due(NONE, "returns", 0, 25, 1, NONE);
    }

    @Says("Then CATCHES, as told")
    void p19CatchesComeBehindIt() {
        begin("m=", "a00.0");
        make("cross", 5, 0);
        make("angle", 0, 0);
        // what it threw on DAY 0 is SOLD, so that on DAY 5 there is nothing to take
        due(1, "returns", 0, 12, 5, NONE);
        due(0, "returns", 0, 12, 5, 0);
        due(NONE, "returns", 0, 12, 5, 1);
    }

    @Says("(0 to 2; whatever room there is for them)")
    void p19Never() {
        begin("m=", "a00.0");
        due(NONE, "returns", 0, 25, 19, NONE);
        due(NONE, "returns", 0, 25, 19, 0);
        due(NONE, "returns", 0, 25, 19, 1);
        begin("", "a00.0");
        due(NONE, "returns", 0, 12, 19, NONE);
    }

    @Says("BACK of one of PEOPLE to a letter, by a DAY")
    void p19LettersLeastAndGreatest() {
        begin("z=", "a00.0");
        due(0, "returns", 0, 0, 0, NONE);
        due(1, "returns", 0, 25, 0, NONE);
        beyond(BAD, "returns", 1, 0, 25, 0, 0, 0, 0);
    }

    @Says("BACK of one of PEOPLE to a letter, by a DAY")
    void p19PeopleBeyond() {
        begin("m=", EIGHT);
        due(1, "returns", 0, 12, 0, NONE);
        due(1, "returns", 7, 12, 0, NONE);
        beyond(BAD, "returns", 0, 0, 7, 0, 0, 0, 0);
        begin("m=", "a00.0");
        refuse(BAD, "returns", 1, 0, 0, 0);
        begin("m=", "");
        refuse(BAD, "returns", 0, 0, 0, NONE);
    }

    @Says("DAYS are 0 to 19.")
    void p19DaysBeyond() {
        begin("m=", "a00.0");
        due(0, "returns", 0, 12, 0, 0);
        due(0, "returns", 0, 12, 19, 0);
        beyond(BAD, "returns", 2, 0, 19, 0, 0, 0, 0);
    }

    @Says("the i-th (0, 1; NONE); NONE. BAD.")
    void p19PlacesBeyond() {
        beginTwoNeeded();
        beyond(BAD, "returns", 3, NONE, 1, 1, 12, 3, 0);
        due(2, "returns", 1, 12, 3, 1);
    }

    @Says("BACK of one of PEOPLE to a letter, by a DAY")
    void p19NothingIsTold() {
        beginTwoNeeded();
        long before = make("digest");
        make("returns", 1, 12, 3, NONE);
        due(2, "count", 5);
        due(before, "digest");
    }

    // ---- 20: net

    /** A NAME that owes 40 drifts from DAY 0 on, and comes to lie behind b at the weir. */
    private void beginDrifting() {
        begin("ab.=", "k40.0");
        make("cross", 0, 0);
    }

    @Says("NET: how much (i = NONE), the i-th CELL (0, 1); NONE.")
    void p20OneCatches() {
        beginDrifting();
        due(40, "net", 0, NONE);
        due(0, "net", 0, 0);
        due(0, "net", 0, 1);
        due(40, "net", 1, NONE);
        due(0, "net", 1, 0);
        due(1, "net", 1, 1);
    }

    @Says("pairs of CELLS (one may be twice) for one CATCH each on a DAY")
    void p20OneCellTwice() {
        beginDrifting();
        due(40, "net", 2, NONE);
        due(2, "net", 2, 0);
        due(2, "net", 2, 1);
    }

    @Says("told behind all others")
    void p20BehindAllOthers() {
        beginDrifting();
        make("angle", 2, 2);
        due(40, "net", 2, NONE);
        due(0, "net", 2, 0);
        due(2, "net", 2, 1);
        due(2, "net", 3, 1);
    }

    @Says("by which most OWES is SOLD behind DAY 19")
    void p20CatchesToldAreSoldToo() {
        beginDrifting();
        make("angle", 0, 0);
        due(40, "net", 5, NONE);
        due(0, "net", 5, 0);
        due(0, "net", 5, 1);
    }

    @Says("by which most OWES is SOLD behind DAY 19")
    void p20MoreIsSoldLater() {
        begin("m=", "a10.0;b90.0");
        make("cross", 0, 0);
        make("cross", 3, 1);
        make("angle", 19, 0);
        // what is caught at the bridge on DAY 1 is the 10, and the 90 would never come there
        due(90, "net", 1, NONE);
        due(1, "net", 1, 0);
        due(1, "net", 1, 1);
        due(90, "net", 3, NONE);
        due(0, "net", 3, 0);
        due(0, "net", 3, 1);
    }

    @Says("by which most OWES is SOLD behind DAY 19")
    void p20ACatchToldLaterFindsItWhereItDrifts() {
        begin("a....", "k40.0");
        make("cross", 0, 0);
        make("angle", 3, 3);
        due(40, "net", 1, NONE);
        due(0, "net", 1, 0);
        due(0, "net", 1, 1);
        make("back", 1);
        make("angle", 3, 2);
        due(40, "net", 1, NONE);
        due(0, "net", 1, 0);
        due(1, "net", 1, 1);
    }

    @Says("of like ones the least row (none less than the one ahead)")
    void p20NothingIsOwed() {
        for (String river : new String[] {"=", "a", "a..b~=", "."}) {
            begin(river, "k40.0");
            due(0, "net", 0, NONE);
            due(0, "net", 0, 0);
            due(0, "net", 0, 1);
        }
        begin("ab", "");
        due(0, "net", 19, NONE);
    }

    @Says("DAYS are 0 to 19.")
    void p20DaysAndCellsLeastAndGreatest() {
        begin("a...................", "k99.0");
        make("cross", 0, 0);
        for (int day : new int[] {0, 7, 18, 19}) {
            due(99, "net", day, NONE);
            due(0, "net", day, 0);
            due(day, "net", day, 1);
        }
        beyond(BAD, "net", 0, 0, 19, 0, 0);
        begin("a..................", "k99.0");
        make("cross", 0, 0);
        due(99, "net", 18, NONE);
        due(0, "net", 19, NONE);
    }

    @Says("NONE: there are no CELLS")
    void p20NoCells() {
        for (String river : new String[] {"", ";", "ab;"}) {
            begin(river, "k40.0");
            due(NONE, "net", 0, NONE);
            due(NONE, "net", 0, 0);
            due(NONE, "net", 19, 1);
        }
    }

    @Says("the i-th CELL (0, 1); NONE. BAD.")
    void p20BadIsAheadOfNone() {
        begin("", "");
        beyond(BAD, "net", 0, 0, 19, 0, 0);
        beyond(BAD, "net", 1, NONE, 1, 0, 0);
    }

    @Says("the i-th CELL (0, 1); NONE. BAD.")
    void p20PlacesBeyond() {
        beginDrifting();
        beyond(BAD, "net", 1, NONE, 1, 0, 0);
    }

    @Says("NET: pairs of CELLS")
    void p20NothingIsTold() {
        beginDrifting();
        for (int k = 0; k < 8; k++) {
            make("angle", 19, 19);
        }
        due(40, "net", 2, NONE);
        due(8, "count", 6);
        due(2, "name", 19, 2, 0);
    }
}
