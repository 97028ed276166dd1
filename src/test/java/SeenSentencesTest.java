import java.io.IOException;

/** Promises 21 to 27: what was seen, floods by chance, crowds. */
public final class SeenSentencesTest extends Sentences {
    private static final long BAD_AS_LONG = Long.MIN_VALUE + 2;

    public static void main(String[] args) throws IOException {
        runAll(SeenSentencesTest.class, 21, 27);
    }

    /**
     * Behind DAY 5 the three are called b, a, c; had the first CROSSING not been, b, m, c; the second,
     * a, b, c; the third, m, a, c.
     */
    private void beginHeld() {
        begin("m=", "a10.3;b2000;c30.1");
        make("cross", 0, 0);
        make("cross", 2, 1);
        make("cross", 5, 0);
    }

    // ---- 21: seen

    @Says("SEEN, 8 at most")
    void p21EightAtMost() {
        begin("m=", EIGHT);
        make("cross", 0, 0);
        for (int i = 1; i <= 8; i++) {
            due(i, "seen", i, 0, 0);
        }
        refuse(FULL, "seen", 0, 0, 25);
        refuse(FULL, "seen", 19, 7, 0);
        due(8, "count", 7);
        due(1, "never");
    }

    @Says("DAYS are 0 to 19.")
    void p21DaysLeastAndGreatest() {
        begin("m=", "a00.0");
        make("cross", 0, 0);
        due(1, "seen", 0, 0, 0);
        due(1, "never");
        make("forget");
        due(1, "seen", 19, 0, 0);
        due(1, "never");
        beyond(BAD, "seen", 0, 0, 19, 0, 0, 0);
    }

    @Says("behind a DAY one of PEOPLE (0 to 7) was CALLED by a letter")
    void p21PeopleLeastAndGreatest() {
        begin("m=", EIGHT);
        make("cross", 0, 7);
        due(1, "seen", 0, 0, 0);
        due(2, "seen", 0, 7, 7);
        due(1, "never");
        beyond(BAD, "seen", 1, 0, 7, 0, 0, 0);
    }

    @Says("by a letter (0 to 25;")
    void p21LettersLeastAndGreatest() {
        begin("m=", "a00.0;z00.0");
        make("cross", 0, 0);
        due(1, "seen", 0, 0, 0);
        due(2, "seen", 0, 1, 25);
        due(1, "never");
        beyond(BAD, "seen", 2, 0, 25, 0, 0, 0);
    }

    @Says("SEEN more: how many. BAD; FULL.")
    void p21BadIsAheadOfFull() {
        beginFull();
        refuse(BAD, "seen", 20, 0, 0);
        refuse(BAD, "seen", -1, 0, 0);
        refuse(BAD, "seen", 0, 8, 0);
        refuse(BAD, "seen", 0, -1, 0);
        refuse(BAD, "seen", 0, 0, 26);
        refuse(BAD, "seen", 0, 0, -1);
        refuse(FULL, "seen", 0, 0, 0);
    }

    @Says("one that there is not: never")
    void p21OneWhoIsNotThere() {
        begin("m=", "a00.0");
        make("cross", 0, 0);
        due(1, "never");
        due(1, "seen", 0, 1, 1);
        due(0, "never");
        due(0, "lucky", 0);
        type(1, ";b00.0");
        due(1, "never");
        due(1023, "lucky", 0);
    }

    @Says("one that there is not: never")
    void p21OneWhoIsNotThereIsCalledByNoLetter() {
        for (int letter = 0; letter < 26; letter++) {
            begin("m=", "a00.0;b00.0");
            make("cross", 0, 0);
            make("seen", 0, 1, letter);
            due(letter == 1 ? 1023 : 0, "lucky", 0);
            for (int k = 0; k < 6; k++) {
                make("undo", 1);
            }
            due(0, "lucky", 0);
            due(0, "never");
        }
    }

    @Says("SEEN more: how many.")
    void p21TheSameTwice() {
        begin("m=", "a00.0");
        due(1, "seen", 3, 0, 0);
        due(2, "seen", 3, 0, 0);
        due(2, "count", 7);
    }

    // ---- 22: forget

    @Says("All SEEN are forgotten: how many.")
    void p22NothingAndTheMost() {
        begin("m=", "a00.0");
        due(0, "forget");
        for (int i = 0; i < 8; i++) {
            make("seen", i, 0, 0);
        }
        due(8, "forget");
        due(0, "forget");
        due(0, "count", 7);
    }

    @Says("All SEEN are forgotten")
    void p22AsIfNeverSeen() {
        beginHeld();
        make("seen", 0, 0, 25);
        make("seen", 19, 1, 25);
        due(0, "never");
        due(0, "lucky", 2);
        due(2, "forget");
        due(7, "never");
        due(1023, "lucky", 2);
    }

    @Says("SEEN, 8 at most")
    void p22ThereIsRoomAgain() {
        beginFull();
        refuse(FULL, "seen", 0, 0, 0);
        due(8, "forget");
        due(1, "seen", 0, 0, 0);
        due(16, "count", 5);
        due(14, "count", 6);
    }

    // ---- 23: never

    @Says("NEVER, as bits.")
    void p23NothingAndTheMost() {
        begin("m=", "a00.0");
        due(0, "never");
        make("seen", 0, 0, 0);
        due(0, "never");
        make("forget");
        for (int i = 0; i < 16; i++) {
            make("cross", i, 0);
        }
        due(65535, "never");
    }

    @Says("CROSSINGS each of which, had it alone not been")
    void p23EachAlone() {
        beginHeld();
        make("seen", 19, 0, 12);
        due(4, "never");
        make("forget");
        make("seen", 2, 1, 12);
        due(1, "never");
        make("forget");
        make("seen", 5, 0, 0);
        due(2, "never");
    }

    @Says("had it alone not been")
    void p23NotTwoAtOnce() {
        begin("m=", "a00.0");
        make("cross", 0, 0);
        make("cross", 1, 0);
        make("seen", 0, 0, 0);
        make("seen", 1, 0, 0);
        // with neither it would come out so
        due(0, "never");
    }

    @Says("makes all that was SEEN come out so")
    void p23AllThatWasSeen() {
        beginHeld();
        make("seen", 5, 2, 2);
        due(7, "never");
        make("seen", 5, 0, 1);
        due(1, "never");
        make("seen", 5, 1, 12);
        due(1, "never");
        make("seen", 0, 0, 12);
        due(0, "never");
    }

    @Says("makes all that was SEEN come out so")
    void p23SeenAtOddsWithItself() {
        beginHeld();
        make("seen", 5, 2, 2);
        make("seen", 5, 2, 3);
        due(0, "never");
    }

    @Says("SEEN, 8 at most: behind a DAY")
    void p23BehindADayAndNotSooner() {
        begin("m=", "a00.0;b00.0");
        make("cross", 4, 0);
        make("cross", 4, 1);
        make("seen", 3, 0, 0);
        due(3, "never");
        make("seen", 4, 1, 12);
        due(1, "never");
    }

    @Says("Then all that is in CELLS drifts")
    void p23WhereTheBridgeIsNotHeld() {
        begin("m", "a00.0;b00.0");
        make("cross", 0, 0);
        make("cross", 1, 1);
        make("seen", 1, 1, 1);
        due(3, "never");
        make("seen", 0, 0, 12);
        due(2, "never");
        begin("m", "a00.0;b00.0");
        make("cross", 0, 0);
        make("cross", 0, 1);
        make("seen", 0, 1, 12);
        due(1, "never");
    }

    @Says("CROSSINGS each of which")
    void p23ACrossingOfNobody() {
        begin("m=", "a00.0");
        make("cross", 0, 7);
        make("cross", 0, 0);
        make("seen", 0, 0, 12);
        due(1, "never");
    }

    @Says("NEVER, as bits.")
    void p23LeastAndGreatestBit() {
        begin("m=", "a00.0;b00.0");
        for (int i = 0; i < 16; i++) {
            make("cross", i, i == 0 || i == 15 ? 1 : 0);
        }
        // the second takes m on DAY 0 and throws it on 15; without its first CROSSING it takes it on 15
        make("seen", 15, 1, 12);
        due(1 + (1 << 15), "never");
        make("seen", 0, 1, 12);
        due(1 << 15, "never");
        make("forget");
        make("seen", 0, 1, 1);
        due(1, "never");
    }

    // ---- 24: lucky

    @Says("LUCKY of one of PEOPLE: LUCK (0 to 9) in place of its own, likewise, as bits.")
    void p24AllAndNone() {
        beginHeld();
        due(1023, "lucky", 0);
        make("seen", 5, 0, 1);
        due(1023, "lucky", 0);
        due(1023, "lucky", 1);
        make("seen", 5, 0, 0);
        due(0, "lucky", 0);
        due(0, "lucky", 2);
    }

    @Says("LUCK (0 to 9) in place of its own, likewise")
    void p24AllCrossingsAreThere() {
        beginHeld();
        make("seen", 5, 0, 12);
        due(4, "never");
        due(0, "lucky", 0);
    }

    @Says("LUCKY, as bits. BAD.")
    void p24PeopleBeyond() {
        begin("m=", EIGHT);
        due(1023, "lucky", 0);
        due(1023, "lucky", 7);
        beyond(BAD, "lucky", 0, 0, 7, 0);
        begin("m=", "a00.0");
        refuse(BAD, "lucky", 1);
        begin("m=", "");
        refuse(BAD, "lucky", 0);
    }

    @Says("in place of its own")
    void p24OnesOwnStays() {
        begin("m=", "a00.4");
        make("cross", 0, 0);
        make("lucky", 0);
        due(4, "person", 0, 3);
        due(12, "called", 0, 0, 1);
    }

    // ---- 25: ask

    @Says("the greatest number of those CROSSINGS by which it is CALLED alike is least")
    void p25TheLeastGreatestNumber() {
        begin("m=", "c30.1;a10.3;b2000");
        make("cross", 0, 1);
        make("cross", 2, 2);
        make("cross", 5, 1);
        // behind 2: c, c, c; a, m, m; m, b, a
        due(2, "ask", 2);
        // behind 0: c, c, c; a, m, m; b, b, b
        due(1, "ask", 0);
    }

    @Says("of those CROSSINGS")
    void p25OfThoseAlone() {
        begin("m=", "c30.1;a10.3;b2000");
        make("cross", 0, 1);
        make("cross", 2, 2);
        make("cross", 5, 1);
        make("seen", 0, 1, 12);
        due(6, "never");
        // behind 0 by the second and third: c, c; m, m; b, b
        due(0, "ask", 0);
        due(2, "ask", 2);
    }

    @Says("Then all that is in CELLS drifts")
    void p25WhereTheBridgeIsNotHeld() {
        begin("m", "c00.0;a00.0;b00.0");
        make("cross", 0, 1);
        make("cross", 0, 2);
        make("cross", 1, 0);
        // behind 0 and ever after: c, c, c; a, m, m; m, b, a
        due(2, "ask", 0);
        due(2, "ask", 19);
    }

    @Says("of like ones the least")
    void p25OfLikeOnes() {
        beginHeld();
        due(0, "ask", 5);
        begin("m=", EIGHT);
        make("cross", 0, 7);
        due(0, "ask", 0);
    }

    @Says("of like ones the least; NONE: there is nobody")
    void p25NoneOfThoseCrossings() {
        begin("m=", EIGHT);
        due(0, "ask", 0);
        begin("m=", "a00.0;b00.0");
        make("cross", 0, 1);
        make("seen", 0, 0, 25);
        due(0, "never");
        due(0, "ask", 0);
        due(0, "ask", 19);
    }

    @Says("NONE: there is nobody")
    void p25Nobody() {
        begin("m=", "");
        make("cross", 0, 0);
        due(NONE, "ask", 0);
        due(NONE, "ask", 19);
        begin("m=", "a00.0;");
        due(NONE, "ask", 0);
    }

    @Says("ASK; NONE. BAD.")
    void p25DaysBeyond() {
        begin("m=", "a00.0;b00.0");
        make("cross", 19, 1);
        make("cross", 18, 1);
        make("seen", 0, 0, 0);
        due(0, "ask", 0);
        due(1, "ask", 18);
        due(0, "ask", 19);
        beyond(BAD, "ask", 0, 0, 19, 0);
        begin("", "");
        beyond(BAD, "ask", 0, 0, 19, 0);
    }

    @Says("ASK of a DAY")
    void p25TheGreatestPerson() {
        begin("m=", EIGHT);
        make("cross", 0, 7);
        make("cross", 1, 7);
        // behind 0 the eighth is called h or m, all others as ever
        due(7, "ask", 0);
    }

    // ---- 26: flooded

    @Says("a FRACTION")
    void p26ZeroByOneAndOneByOne() {
        beginHeld();
        for (int day = 0; day <= 9; day++) {
            int called = (int) make("called", day, 0, 1);
            due(1, "flooded", 5, day, 0, called, 0);
            due(1, "flooded", 5, day, 0, called, 1);
            due(0, "flooded", 5, day, 0, 25, 0);
            due(1, "flooded", 5, day, 0, 25, 1);
        }
    }

    @Says("by c sixteenths (0 to 16)")
    void p26SixteenthsLeastAndGreatest() {
        beginHeld();
        for (int c = 0; c <= 16; c++) {
            due(1, "flooded", c, 9, 0, 1, 0);
            due(1, "flooded", c, 9, 0, 1, 1);
            due(0, "flooded", c, 9, 0, 12, 0);
            due(1, "flooded", c, 9, 0, 12, 1);
        }
        beyond(BAD_AS_LONG, "flooded", 0, 0, 16, 0, 0, 0, 0, 0);
    }

    @Says("from 0 to a told one (0 to 9)")
    void p26DaysLeastAndGreatest() {
        begin("m=", "a00.0;b00.0");
        make("cross", 0, 0);
        make("cross", 9, 1);
        make("cross", 10, 0);
        due(1, "flooded", 8, 0, 0, 12, 0);
        due(0, "flooded", 8, 8, 1, 0, 0);
        due(1, "flooded", 8, 9, 1, 0, 0);
        due(1, "flooded", 8, 9, 0, 12, 0);
        beyond(BAD_AS_LONG, "flooded", 1, 0, 9, 0, 0, 0, 0, 0);
    }

    @Says("the chance that one of PEOPLE is CALLED by a letter behind it")
    void p26PeopleBeyond() {
        begin("m=", EIGHT);
        due(1, "flooded", 8, 0, 0, 0, 0);
        due(1, "flooded", 8, 0, 7, 7, 0);
        beyond(BAD_AS_LONG, "flooded", 2, 0, 7, 0, 0, 0, 0, 0);
        begin("m=", "a00.0");
        refuse(BAD_AS_LONG, "flooded", 0, 0, 1, 0, 0);
        begin("m=", "");
        refuse(BAD_AS_LONG, "flooded", 0, 0, 0, 0, 0);
    }

    @Says("is CALLED by a letter behind it")
    void p26LettersLeastAndGreatest() {
        begin("m=", "a00.0;z00.0");
        due(1, "flooded", 8, 0, 0, 0, 0);
        due(1, "flooded", 8, 0, 1, 25, 0);
        due(0, "flooded", 8, 0, 0, 25, 0);
        beyond(BAD_AS_LONG, "flooded", 3, 0, 25, 0, 0, 0, 0, 0);
    }

    @Says("FLOODED: above, below. BAD. (As the least long.)")
    void p26WhatsBeyond() {
        begin("m=", "a00.0");
        due(0, "flooded", 8, 0, 0, 25, 0);
        due(1, "flooded", 8, 0, 0, 25, 1);
        beyond(BAD_AS_LONG, "flooded", 4, 0, 1, 0, 0, 0, 0, 0);
    }

    @Says("in place of those told")
    void p26FloodsToldStayAsTheyAre() {
        begin("m=a.......", "a00.0");
        make("flood", 0);
        make("cross", 1, 0);
        due(1, "flooded", 0, 9, 0, 12, 0);
        due(1, "flooded", 16, 9, 0, 12, 0);
        due(4, "name", 0, 1, 0);
        due(1, "count", 6);
    }

    @Says("there is a FLOOD by c sixteenths")
    void p26CatchesAndCrossingsAreAsTold() {
        begin("m=", "a00.0;b00.0");
        make("cross", 2, 0);
        make("angle", 2, 0);
        make("cross", 3, 1);
        due(1, "flooded", 16, 9, 0, 12, 0);
        due(1, "flooded", 16, 9, 1, 1, 0);
        due(0, "flooded", 16, 1, 0, 12, 0);
    }

    @Says("Then all that is in CELLS drifts")
    void p26WhereTheBridgeIsNotHeld() {
        begin("m", "a00.0;b00.0");
        make("cross", 0, 0);
        make("cross", 1, 1);
        for (int c : new int[] {0, 5, 16}) {
            due(1, "flooded", c, 1, 0, 12, 0);
            due(1, "flooded", c, 1, 1, 1, 0);
            due(1, "flooded", c, 1, 1, 1, 1);
            due(0, "flooded", c, 1, 1, 0, 0);
        }
    }

    // ---- 27: crowd

    private static int lot(long seed, int m) {
        return (int) ((seed >> 16 & 0xffff) % m);
    }

    /** The bridge of one held NAME lived apart from the class: who crosses takes what the last one threw. */
    private void crowdsBy(int seed, int people) {
        begin("m=", EIGHT.substring(0, 6 * people - 1));
        int[] called = {0, 1, 2, 3, 4, 5, 6, 7};
        int thrown = 12;
        long state = seed;
        for (int day = 0; day < 20; day++) {
            state = (state * 1103515245L + 12345) & 0xffffffffL;
            int who = lot(state, people);
            int taken = thrown;
            thrown = called[who];
            called[who] = taken;
            due(taken, "crowd", seed, day, who);
            due(people, "crowd", seed, day, NONE);
        }
        for (int p = 0; p < people; p++) {
            due(called[p], "crowd", seed, 19, p);
        }
    }

    @Says("SEED becomes 1103515245 SEED and 12345, as ints that wrap")
    void p27SeedsThatWrap() {
        for (int seed : new int[] {0, 1, -1, 7, 65535, 65536, -65536, LEAST, MOST, LEAST + 1, MOST - 1}) {
            crowdsBy(seed, 8);
            crowdsBy(seed, 7);
        }
    }

    @Says("LOTS of m")
    void p27FromOneToEight() {
        for (int people = 1; people <= 8; people++) {
            crowdsBy(99, people);
            crowdsBy(-99, people);
        }
    }

    @Says("its upper 16 bits as a number from 0 on, modulo m")
    void p27UpperBitsAboveHalf() {
        // -1 becomes 0xBE39E1CC: 48697, which is 1 modulo 8 and modulo 3
        begin("m=", EIGHT);
        due(12, "crowd", -1, 0, 1);
        begin("m=", EIGHT.substring(0, 17));
        due(12, "crowd", -1, 0, 1);
        // 1 becomes 0x41C67EA6: 16838, which is 6 modulo 8 and 2 modulo 3
        due(12, "crowd", 1, 0, 2);
        begin("m=", EIGHT);
        due(12, "crowd", 1, 0, 6);
    }

    @Says("that one crosses, too, told behind all others")
    void p27BehindAllOthers() {
        begin("m=", "a00.0;b00.0;c00.0");
        make("cross", 0, 0);
        due(12, "crowd", 1, 0, 0);
        due(0, "crowd", 1, 0, 2);
        due(2, "called", 0, 2, 1);
        due(1, "count", 5);
    }

    @Says("Then CATCHES, as told")
    void p27CatchesComeBehindIt() {
        begin("m=", "a00.0;b00.0;c00.0");
        make("angle", 0, 0);
        due(12, "crowd", 1, 0, 2);
        due(12, "crowd", 1, 19, 2);
        due(0, "crowd", 1, 19, 0);
    }

    @Says("told behind all others")
    void p27WhateverRoomThereIs() {
        begin("m=", "a00.0;b00.0;c00.0");
        for (int i = 0; i < 16; i++) {
            make("cross", 19, 7);
        }
        due(12, "crowd", 1, 0, 2);
        due(16, "count", 5);
    }

    @Says("on each DAY from 0 to a told one a LOT of PEOPLE")
    void p27FromDay0On() {
        begin("m", "a00.0;b00.0;c00.0");
        // only on DAY 0 does a NAME lie at the bridge, and then the third crosses
        due(12, "crowd", 1, 0, 2);
        due(12, "crowd", 1, 19, 2);
        due(0, "crowd", 1, 19, 0);
    }

    @Says("(no LOTS where there is nobody)")
    void p27Nobody() {
        begin("m=", "");
        due(0, "crowd", 1, 0, NONE);
        due(0, "crowd", LEAST, 19, NONE);
        refuse(BAD, "crowd", 1, 0, 0);
        begin("m=", "a00.");
        due(0, "crowd", 1, 19, NONE);
    }

    @Says("how many letters there are by which some are CALLED")
    void p27LettersAndNotPeople() {
        begin("", "a00.0;a00.0;a00.0;a00.0;a00.0;a00.0;a00.0;a00.0");
        due(1, "crowd", 1, 19, NONE);
        begin("a=", "a00.0;z00.0;z00.0");
        // the third takes a, and z lies at the bridge
        due(2, "crowd", 1, 0, NONE);
        begin("z=", "a00.0;z00.0");
        // 16838 is even: the first takes z
        due(1, "crowd", 1, 0, NONE);
        begin("", "a00.0;z00.0");
        due(2, "crowd", 1, 0, NONE);
        due(25, "crowd", 1, 0, 1);
    }

    @Says("DAYS are 0 to 19.")
    void p27DaysBeyond() {
        begin("m=", EIGHT);
        beyond(BAD, "crowd", 1, 0, 19, 0, 0, 0);
        beyond(BAD, "crowd", 1, 0, 19, 0, 0, NONE);
        begin("", "");
        beyond(BAD, "crowd", 1, 0, 19, 0, 0, NONE);
    }

    @Says("CROWD: how many letters (person = NONE), by which one is CALLED. BAD.")
    void p27PeopleBeyond() {
        begin("m=", EIGHT);
        beyond(BAD, "crowd", 2, NONE, 7, 0, 0, 0);
        begin("m=", "a00.0;b00.0");
        refuse(BAD, "crowd", 0, 0, 2);
        refuse(BAD, "crowd", 0, 0, -2);
    }

    @Says("crossings undone.")
    void p27NothingIsTold() {
        beginHeld();
        long before = make("digest");
        make("crowd", 3, 19, NONE);
        due(before, "digest");
        due(3, "count", 5);
    }
}
