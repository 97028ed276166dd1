import java.util.Arrays;

/** Names thrown from a bridge and taken up again: the document's face, and what it refuses. */
public final class ThrownNames {
    public static final int NONE = -1, BAD = -2, NOT = -3, FULL = -4;

    private static final int NULL = 1, INDEX = 2, CAST = 3, STORE = 4, SIZE = 5;
    private static final int BELOW_FINDINGS = -10;
    private static final int LEAST_INT = 0x80000000;
    private static final long LEAST_LONG = 0x8000000000000000L;

    private static final int DAYS = 20, CHANCE_DAYS = 10;
    private static final int MOST_CELLS = 20, MOST_PEOPLE = 8, MOST_NAMES = 28, PAIRS = 64;
    private static final int RIVER_BYTES = 20, PEOPLE_BYTES = 47, PERSON_BYTES = 6;
    private static final int MOST_CROSSINGS = 16, MOST_CATCHES = 8, MOST_FLOODS = 6, MOST_SIGHTINGS = 8;
    private static final int LETTERS = 26, LUCKS = 10, MOST_WEAR = 20, FIRST_WEAR = 8;
    private static final int SIXTEENTHS = 16;
    private static final int SEA = 20, SOLD = 21, FIRST_OWNER = 22;
    private static final int BARE = 0, SLOW = 1, WEIR = 2, NAMED = 3;
    private static final int TEXTS = 2, RIVER = 0, PEOPLE = 1;
    private static final int SHEETS = 4, FORMS = 3, BYTES = 0, SHORTS = 1, MOST_ITEMS = 60;

    private final Text[] texts = new Text[TEXTS];
    private final Log crossings = new Log(MOST_CROSSINGS);
    private final Log catches = new Log(MOST_CATCHES);
    private final Log floods = new Log(MOST_FLOODS);
    private final Log sightings = new Log(MOST_SIGHTINGS);
    private final World world = new World();
    private final Days days = new Days(world, crossings, catches, floods);
    private final Plans plans = new Plans(days);
    private final Guess guess = new Guess(days, sightings);
    private final Chance chance = new Chance(days);
    private final Sheet[] sheets = new Sheet[SHEETS];
    private int latestFinding = 0;
    /** The days are lived anew only when asked for: many bytes are typed for one question. */
    private boolean stale = true;

    public ThrownNames() {
        texts[RIVER] = new Text(RIVER_BYTES);
        texts[PEOPLE] = new Text(PEOPLE_BYTES);
        for (int s = 0; s < SHEETS; s++) {
            sheets[s] = new Sheet();
        }
    }

    // ---- the river, people, crossings

    public int type(int text, int b) {
        if (!within(text, TEXTS) || !within(b, 256)) {
            return BAD;
        }
        stale = true;
        return texts[text].put(b);
    }

    public int wipe(int text) {
        if (!within(text, TEXTS)) {
            return BAD;
        }
        stale = true;
        int had = texts[text].size;
        texts[text].size = 0;
        return had;
    }

    public int undo(int text) {
        if (!within(text, TEXTS)) {
            return BAD;
        }
        stale = true;
        return texts[text].dropLast();
    }

    public int fault(int text) {
        if (!within(text, TEXTS)) {
            return BAD;
        }
        return text == RIVER ? texts[RIVER].riverFault() : texts[PEOPLE].peopleFault();
    }

    public int cell(int cell) {
        if (!within(cell, MOST_CELLS)) {
            return BAD;
        }
        settle();
        return cell < world.cells ? world.kind[cell] : NONE;
    }

    public int person(int person, int what) {
        settle();
        if (!isPerson(person) || !within(what, 4)) {
            return BAD;
        }
        int own = world.riverNames + person;
        switch (what) {
            case 0: return world.letter[own];
            case 1: return world.owes[own];
            case 2: return world.wed[person];
            default: return world.luck[person];
        }
    }

    public int wear(int v) {
        if (v < 1 || v > MOST_WEAR) {
            return BAD;
        }
        int was = world.wearLimit;
        world.wearLimit = v;
        return was;
    }

    public int cross(int day, int person) {
        if (!within(day, DAYS) || !within(person, MOST_PEOPLE)) {
            return BAD;
        }
        stale = true;
        return crossings.add(day, person, NONE);
    }

    public int angle(int day, int cell) {
        if (!within(day, DAYS) || !within(cell, MOST_CELLS)) {
            return BAD;
        }
        stale = true;
        return catches.add(day, cell, NONE);
    }

    public int flood(int day) {
        if (!within(day, DAYS)) {
            return BAD;
        }
        stale = true;
        return floods.add(day, NONE, NONE);
    }

    public int back(int what) {
        if (!within(what, 3)) {
            return BAD;
        }
        stale = true;
        switch (what) {
            case 0: return crossings.dropLast();
            case 1: return catches.dropLast();
            default: return floods.dropLast();
        }
    }

    public int read(int s) {
        if (!within(s, SHEETS)) {
            return BAD;
        }
        if (sheets[s].isLost()) {
            return finding(NULL);
        }
        int[] items = sheets[s].items;
        int taken = 0;
        for (int i = 0; i + 1 < sheets[s].size && i + 1 < items.length; i += 2) {
            if (cross(items[i], items[i + 1]) < 0) {
                break;
            }
            taken++;
        }
        return taken;
    }

    // ---- days

    public int called(int day, int person, int what) {
        settle();
        if (!within(day, DAYS) || !isPerson(person) || !within(what, 4)) {
            return BAD;
        }
        Water water = days.ahead[day + 1];
        switch (what) {
            case 0: return water.has[person];
            case 1: return water.letterOf(world, person);
            case 2: return world.owes[water.has[person]];
            default: return water.spouseOf(world, person);
        }
    }

    public int name(int day, int name, int what) {
        settle();
        if (!within(day, DAYS) || !within(name, world.names()) || !within(what, 3)) {
            return BAD;
        }
        Water water = days.ahead[day + 1];
        switch (what) {
            case 0: return water.where[name];
            case 1: return water.worn[name];
            default: return world.letterWhen(name, water.worn[name]);
        }
    }

    public int same(int day) {
        settle();
        if (!within(day, DAYS)) {
            return BAD;
        }
        int pairs = 0;
        for (int pair = 0; pair < PAIRS; pair++) {
            if (areAlike(day, pair)) {
                pairs++;
            }
        }
        return pairs;
    }

    public int first(int what) {
        settle();
        if (!within(what, 2)) {
            return BAD;
        }
        for (int day = 0; day < DAYS; day++) {
            for (int pair = 0; pair < PAIRS; pair++) {
                if (areAlike(day, pair)) {
                    return what == 0 ? day : pair;
                }
            }
        }
        return NONE;
    }

    public int changes(int crossing) {
        settle();
        if (!within(crossing, crossings.size)) {
            return BAD;
        }
        return days.changedBits >> crossing & 1;
    }

    // ---- plans

    public int returns(int person, int letter, int day, int i) {
        settle();
        if (!isPerson(person) || !within(letter, LETTERS) || !within(day, DAYS) || !isNoneOrOneOfTwo(i)) {
            return BAD;
        }
        plans.findBack(person, letter, day);
        return i == NONE ? plans.backCount : plans.backDay[i];
    }

    public int net(int day, int i) {
        settle();
        if (!within(day, DAYS) || !isNoneOrOneOfTwo(i)) {
            return BAD;
        }
        plans.findNet(day);
        return i == NONE ? plans.netOwes : plans.netCell[i];
    }

    // ---- seen, floods, crowds

    public int seen(int day, int person, int letter) {
        if (!within(day, DAYS) || !within(person, MOST_PEOPLE) || !within(letter, LETTERS)) {
            return BAD;
        }
        return sightings.add(day, person, letter);
    }

    public int forget() {
        int had = sightings.size;
        sightings.size = 0;
        return had;
    }

    public int never() {
        settle();
        return guess.neverBits();
    }

    public int lucky(int person) {
        settle();
        if (!isPerson(person)) {
            return BAD;
        }
        return guess.luckyBits(person);
    }

    public int ask(int day) {
        settle();
        if (!within(day, DAYS)) {
            return BAD;
        }
        return guess.nextToAsk(guess.neverBits(), day);
    }

    public long flooded(int c, int day, int person, int letter, int what) {
        settle();
        if (!within(c, SIXTEENTHS + 1) || !within(day, CHANCE_DAYS) || !isPerson(person)
                || !within(letter, LETTERS) || !within(what, 2)) {
            return LEAST_LONG - BAD;
        }
        chance.weigh(c, day, person, letter);
        return what == 0 ? chance.above : chance.below;
    }

    public int crowd(int seed, int day, int person) {
        settle();
        if (!within(day, DAYS) || person != NONE && !isPerson(person)) {
            return BAD;
        }
        Water water = chance.crowdedWater(seed, day);
        return person == NONE ? water.lettersInUse(world) : water.letterOf(world, person);
    }

    // ---- sheets

    public int sheet(int s, int form, int n) {
        if (!within(s, SHEETS) || !within(form, FORMS) || n > MOST_ITEMS) {
            return BAD;
        }
        if (n < 0) {
            return finding(SIZE);
        }
        sheets[s].renew(form, n);
        return n;
    }

    public int lose(int s) {
        if (!within(s, SHEETS)) {
            return BAD;
        }
        if (sheets[s].isLost()) {
            return finding(NULL);
        }
        int had = sheets[s].size;
        sheets[s].size = NONE;
        return had;
    }

    public int lay(int s, int form, int i, int v) {
        int refusal = refusalOfItem(s, form, i);
        if (refusal < 0) {
            return refusal;
        }
        sheets[s].put(i, v);
        return 1;
    }

    public int get(int s, int form, int i) {
        if (refusalOfItem(s, form, i) < 0) {
            return LEAST_INT;
        }
        return sheets[s].items[i];
    }

    public int copy(int s, int i, int t, int j, int n) {
        if (!within(s, SHEETS) || !within(t, SHEETS)) {
            return BAD;
        }
        Sheet from = sheets[s];
        Sheet to = sheets[t];
        if (from.isLost() || to.isLost()) {
            return finding(NULL);
        }
        if (from.form != to.form) {
            return finding(STORE);
        }
        if (!from.holds(i, n) || !to.holds(j, n)) {
            return finding(INDEX);
        }
        System.arraycopy(from.items, i, to.items, j, n);
        return 1;
    }

    public int write(int day, int s) {
        settle();
        if (!within(day, DAYS) || !within(s, SHEETS)) {
            return BAD;
        }
        if (sheets[s].isLost()) {
            return finding(NULL);
        }
        int written = Math.min(sheets[s].size, world.names());
        for (int name = 0; name < written; name++) {
            sheets[s].put(name, days.ahead[day + 1].where[name]);
        }
        return written;
    }

    public int count(int what) {
        settle();
        switch (what) {
            case 0: return world.cells;
            case 1: return world.people;
            case 2: return texts[RIVER].size;
            case 3: return texts[PEOPLE].size;
            case 4: return world.names();
            case 5: return crossings.size;
            case 6: return catches.size + floods.size;
            case 7: return sightings.size;
            case 8: return latestFinding;
            default: return BAD;
        }
    }

    public long digest() {
        settle();
        long h = 17;
        for (int what = 0; what < 8; what++) {
            h = 31 * h + count(what);
        }
        for (int text = 0; text < TEXTS; text++) {
            h = 31 * h + fault(text);
        }
        for (int c = 0; c < world.cells; c++) {
            h = 31 * h + cell(c);
        }
        for (int p = 0; p < world.people; p++) {
            for (int what = 0; what < 4; what++) {
                h = 31 * h + person(p, what);
            }
            for (int day = 3; day <= 19; day += 16) {
                for (int what = 0; what < 4; what++) {
                    h = 31 * h + called(day, p, what);
                }
            }
        }
        for (int p = 0; p < world.people; p++) {
            h = 31 * h + returns(p, 2, 9, NONE);
            h = 31 * h + returns(p, 2, 9, 0);
            h = 31 * h + lucky(p);
            h = 31 * h + flooded(5, 6, p, 2, 0);
            h = 31 * h + flooded(5, 6, p, 2, 1);
            h = 31 * h + crowd(7, 19, p);
        }
        for (int x = 0; x < world.names(); x++) {
            for (int what = 0; what < 3; what++) {
                h = 31 * h + name(9, x, what);
            }
            h = 31 * h + name(19, x, 0);
        }
        for (int crossing = 0; crossing < crossings.size; crossing++) {
            h = 31 * h + changes(crossing);
        }
        h = 31 * h + same(9);
        h = 31 * h + first(0);
        h = 31 * h + first(1);
        h = 31 * h + net(2, NONE);
        h = 31 * h + net(2, 0);
        h = 31 * h + never();
        h = 31 * h + ask(9);
        return 31 * h + crowd(7, 19, NONE);
    }

    // ---- what the calls share

    private static boolean within(int v, int n) {
        return v >= 0 && v < n;
    }

    private static boolean isNoneOrOneOfTwo(int i) {
        return i == NONE || within(i, 2);
    }

    private boolean isPerson(int person) {
        return within(person, world.people);
    }

    private int finding(int number) {
        latestFinding = number;
        return BELOW_FINDINGS - number;
    }

    private int refusalOfItem(int s, int form, int i) {
        if (!within(s, SHEETS) || !within(form, FORMS)) {
            return BAD;
        }
        if (sheets[s].isLost()) {
            return finding(NULL);
        }
        if (sheets[s].form != form) {
            return finding(CAST);
        }
        return sheets[s].holds(i, 1) ? 0 : finding(INDEX);
    }

    private void settle() {
        if (stale) {
            world.tellRiver(texts[RIVER]);
            world.tellPeople(texts[PEOPLE]);
            days.live();
            stale = false;
        }
    }

    /** A pair is 8 times the lesser and the greater, as the document tells it. */
    private boolean areAlike(int day, int pair) {
        Water water = days.ahead[day + 1];
        int lesser = pair / MOST_PEOPLE;
        int greater = pair % MOST_PEOPLE;
        return lesser < greater && isPerson(greater)
                && water.letterOf(world, lesser) == water.letterOf(world, greater);
    }

    /** Bytes as typed. */
    private static final class Text {
        final int[] bytes;
        int size = 0;

        Text(int most) {
            bytes = new int[Math.max(most, 0)];
        }

        int put(int b) {
            if (size >= bytes.length) {
                return FULL;
            }
            bytes[size] = b;
            size++;
            return size;
        }

        int dropLast() {
            if (size <= 0) {
                return NOT;
            }
            size--;
            return size;
        }

        int riverFault() {
            for (int i = 0; i < size; i++) {
                if (kindOfByte(bytes[i]) == NONE) {
                    return i;
                }
            }
            return NONE;
        }

        /** A ninth of PEOPLE needs no test: eight of them fill the text. */
        int peopleFault() {
            for (int i = 0; i < size; i++) {
                if (!fitsPerson(i % PERSON_BYTES, bytes[i])) {
                    return i;
                }
            }
            return size == 0 || size % PERSON_BYTES == PERSON_BYTES - 1 ? NONE : size;
        }

        static int kindOfByte(int b) {
            switch (b) {
                case '.': return BARE;
                case '~': return SLOW;
                case '=': return WEIR;
                default: return isLetter(b) ? NAMED : NONE;
            }
        }

        static boolean fitsPerson(int place, int b) {
            switch (place) {
                case 0: return isLetter(b);
                case 1:
                case 2:
                case 4: return b >= '0' && b <= '9';
                case 3: return b == '.' || b >= '0' && b <= '7';
                default: return b == ';';
            }
        }

        static boolean isLetter(int b) {
            return b >= 'a' && b <= 'z';
        }
    }

    /** What was told of DAYS, in the order in which it was told. */
    private static final class Log {
        final int[] day;
        final int[] whom;
        final int[] letter;
        int size = 0;

        Log(int most) {
            int room = Math.max(most, 0);
            day = new int[room];
            whom = new int[room];
            letter = new int[room];
        }

        int add(int onDay, int ofWhom, int ofLetter) {
            if (size >= day.length) {
                return FULL;
            }
            day[size] = onDay;
            whom[size] = ofWhom;
            letter[size] = ofLetter;
            size++;
            return size;
        }

        int dropLast() {
            if (size <= 0) {
                return NOT;
            }
            size--;
            return size;
        }
    }

    /** What the two texts mean; a text with a FAULT means nothing. */
    private static final class World {
        final int[] kind = new int[MOST_CELLS];
        final boolean[] driftsOnEven = new boolean[MOST_CELLS];
        final boolean[] driftsOnOdd = new boolean[MOST_CELLS];
        final int[] cellOf = new int[MOST_CELLS];
        final int[] letter = new int[MOST_NAMES];
        final int[] owes = new int[MOST_NAMES];
        final int[] wed = new int[MOST_PEOPLE];
        final int[] luck = new int[MOST_PEOPLE];
        int cells = 0;
        int riverNames = 0;
        int people = 0;
        int wearLimit = FIRST_WEAR;

        int names() {
            return riverNames + people;
        }

        void tellRiver(Text text) {
            riverNames = 0;
            cells = text.riverFault() == NONE ? Math.min(text.size, MOST_CELLS) : 0;
            for (int c = 0; c < cells; c++) {
                kind[c] = Text.kindOfByte(text.bytes[c]);
                if (kind[c] == NAMED) {
                    letter[riverNames] = text.bytes[c] - 'a';
                    owes[riverNames] = 0;
                    cellOf[riverNames] = c;
                    riverNames++;
                }
            }
            for (int c = 0; c < cells; c++) {
                driftsOnEven[c] = c + 1 >= cells || kind[c + 1] != WEIR;
                driftsOnOdd[c] = driftsOnEven[c] && kind[c] != SLOW;
            }
        }

        /** NAMES of PEOPLE are numbered behind those of the river, so the river is told first. */
        void tellPeople(Text text) {
            int told = text.peopleFault() == NONE ? (text.size + 1) / PERSON_BYTES : 0;
            people = Math.min(told, MOST_PEOPLE);
            for (int p = 0; p < people; p++) {
                int at = p * PERSON_BYTES;
                int own = riverNames + p;
                letter[own] = text.bytes[at] - 'a';
                owes[own] = 10 * (text.bytes[at + 1] - '0') + text.bytes[at + 2] - '0';
                wed[p] = text.bytes[at + 3] == '.' ? NONE : text.bytes[at + 3] - '0';
                luck[p] = text.bytes[at + 4] - '0';
            }
        }

        /** A vowel stays itself, so it is enough to look whether a NAME is WORN by WEAR or more. */
        int letterWhen(int name, int worn) {
            int fresh = letter[name];
            if (worn < wearLimit) {
                return fresh;
            }
            if (fresh >= 'u' - 'a') {
                return 'u' - 'a';
            }
            if (fresh >= 'o' - 'a') {
                return 'o' - 'a';
            }
            if (fresh >= 'i' - 'a') {
                return 'i' - 'a';
            }
            return fresh >= 'e' - 'a' ? 'e' - 'a' : 0;
        }
    }

    /** Where all NAMES are at one time. */
    private static final class Water {
        final int[] where = new int[MOST_NAMES];
        final int[] worn = new int[MOST_NAMES];
        final int[] has = new int[MOST_PEOPLE];
        /**
         * The NAMES in CELLS, from the last CELL to the first, in each as they came: drifting keeps
         * this order, as what drifts comes behind all that is in the next CELL.
         */
        final int[] afloat = new int[MOST_CELLS];
        int size = 0;

        void begin(World world) {
            Arrays.fill(worn, 0);
            size = world.riverNames;
            for (int x = 0; x < size; x++) {
                where[x] = world.cellOf[x];
                afloat[size - 1 - x] = x;
            }
            for (int p = 0; p < world.people; p++) {
                has[p] = world.riverNames + p;
                where[world.riverNames + p] = FIRST_OWNER + p;
            }
        }

        void become(Water other) {
            System.arraycopy(other.where, 0, where, 0, MOST_NAMES);
            System.arraycopy(other.worn, 0, worn, 0, MOST_NAMES);
            System.arraycopy(other.has, 0, has, 0, MOST_PEOPLE);
            System.arraycopy(other.afloat, 0, afloat, 0, other.size);
            size = other.size;
        }

        /** Whether one who crosses takes another NAME than its own. */
        boolean exchange(int person, int luck) {
            int lowest = size;
            while (lowest > 0 && where[afloat[lowest - 1]] == 0) {
                lowest--;
            }
            int n = size - lowest;
            if (n <= 0) {
                return false;
            }
            int at = lowest + luck % n;
            int taken = afloat[at];
            int thrown = has[person];
            for (int i = at; i + 1 < size; i++) {
                afloat[i] = afloat[i + 1];
            }
            afloat[size - 1] = thrown;
            where[thrown] = 0;
            where[taken] = FIRST_OWNER + person;
            has[person] = taken;
            return true;
        }

        void sell(int cell) {
            int at = 0;
            while (at < size && where[afloat[at]] != cell) {
                at++;
            }
            if (at >= size) {
                return;
            }
            where[afloat[at]] = SOLD;
            size--;
            for (int i = at; i < size; i++) {
                afloat[i] = afloat[i + 1];
            }
        }

        void drift(World world, int day) {
            boolean[] drifts = day % 2 == 0 ? world.driftsOnEven : world.driftsOnOdd;
            int kept = 0;
            for (int i = 0; i < size; i++) {
                int x = afloat[i];
                if (drifts[where[x]]) {
                    worn[x]++;
                    where[x] = where[x] + 1 < world.cells ? where[x] + 1 : SEA;
                }
                if (where[x] != SEA) {
                    afloat[kept] = x;
                    kept++;
                }
            }
            size = kept;
        }

        int letterOf(World world, int person) {
            int x = has[person];
            return world.letterWhen(x, worn[x]);
        }

        int spouseOf(World world, int person) {
            int owner = has[person] - world.riverNames;
            if (!within(owner, world.people) || !within(world.wed[owner], world.people)) {
                return NONE;
            }
            int place = where[world.riverNames + world.wed[owner]];
            return place >= FIRST_OWNER ? place - FIRST_OWNER : NONE;
        }

        int owesSold(World world) {
            int sum = 0;
            for (int x = 0; x < world.names(); x++) {
                if (where[x] == SOLD) {
                    sum += world.owes[x];
                }
            }
            return sum;
        }

        int lettersInUse(World world) {
            int bits = 0;
            for (int p = 0; p < world.people; p++) {
                bits |= 1 << letterOf(world, p);
            }
            return Integer.bitCount(bits);
        }
    }

    /** What is supposed of CROSSINGS: one that had not been (or NONE), and the LUCK of each. */
    private static final class Case {
        final int[] luck = new int[MOST_PEOPLE];
        int without = NONE;

        void asTold(World world) {
            without = NONE;
            System.arraycopy(world.luck, 0, luck, 0, MOST_PEOPLE);
        }
    }

    /** The DAYS as told, and the steps by which any other DAYS are lived. */
    private static final class Days {
        final World world;
        final Log crossings;
        final Log catches;
        final Log floods;
        final Case told = new Case();
        /** Ahead of each DAY, and behind the last; so behind DAY d is at d + 1. */
        final Water[] ahead = new Water[DAYS + 1];
        int floodBits = 0;
        int changedBits = 0;

        Days(World ofWorld, Log toldCrossings, Log toldCatches, Log toldFloods) {
            world = ofWorld;
            crossings = toldCrossings;
            catches = toldCatches;
            floods = toldFloods;
            for (int d = 0; d <= DAYS; d++) {
                ahead[d] = new Water();
            }
        }

        void live() {
            told.asTold(world);
            changedBits = 0;
            floodBits = 0;
            for (int f = 0; f < floods.size; f++) {
                floodBits |= 1 << floods.day[f];
            }
            ahead[0].begin(world);
            for (int d = 0; d < DAYS; d++) {
                ahead[d + 1].become(ahead[d]);
                changedBits |= crossTold(ahead[d + 1], d, told);
                catchTold(ahead[d + 1], d);
                driftTold(ahead[d + 1], d);
            }
        }

        /** Which CROSSINGS change one's NAME, as bits. */
        int crossTold(Water water, int day, Case supposed) {
            int bits = 0;
            for (int k = 0; k < crossings.size; k++) {
                int who = crossings.whom[k];
                if (crossings.day[k] == day && k != supposed.without && who < world.people
                        && water.exchange(who, supposed.luck[who])) {
                    bits |= 1 << k;
                }
            }
            return bits;
        }

        void catchTold(Water water, int day) {
            for (int k = 0; k < catches.size; k++) {
                if (catches.day[k] == day) {
                    water.sell(catches.whom[k]);
                }
            }
        }

        void driftTold(Water water, int day) {
            water.drift(world, day);
            if ((floodBits >> day & 1) != 0) {
                water.drift(world, day);
            }
        }

        void go(Water water, int from, int to, Case supposed) {
            for (int d = from; d <= to && d < DAYS; d++) {
                crossTold(water, d, supposed);
                catchTold(water, d);
                driftTold(water, d);
            }
        }

        /** A DAY as told, but for one who crosses behind all others. */
        void goWithOneMore(Water water, int day, int person) {
            crossTold(water, day, told);
            water.exchange(person, told.luck[person]);
            catchTold(water, day);
            driftTold(water, day);
        }
    }

    /** BACK and NET: what could be told more, tried out one by one. */
    private static final class Plans {
        final Days days;
        final Water first = new Water();
        final Water second = new Water();
        final int[] backDay = new int[2];
        final int[] netCell = new int[2];
        int backCount = NONE;
        int netOwes = NONE;

        Plans(Days ofDays) {
            days = ofDays;
        }

        void findBack(int person, int letter, int day) {
            keepBack(0, NONE, NONE);
            if (days.ahead[day + 1].letterOf(days.world, person) == letter) {
                return;
            }
            for (int d = 0; d <= day; d++) {
                first.become(days.ahead[d]);
                days.goWithOneMore(first, d, person);
                days.go(first, d + 1, day, days.told);
                if (first.letterOf(days.world, person) == letter) {
                    keepBack(1, d, NONE);
                    return;
                }
            }
            for (int d = 0; d < day; d++) {
                int next = nextForBack(person, letter, d, day);
                if (next != NONE) {
                    keepBack(2, d, next);
                    return;
                }
            }
            keepBack(NONE, NONE, NONE);
        }

        void keepBack(int howMany, int firstDay, int nextDay) {
            backCount = howMany;
            backDay[0] = firstDay;
            backDay[1] = nextDay;
        }

        /** The soonest later DAY with which one's crossing on a DAY brings the letter, or NONE. */
        int nextForBack(int person, int letter, int on, int day) {
            first.become(days.ahead[on]);
            days.goWithOneMore(first, on, person);
            for (int d = on + 1; d <= day; d++) {
                second.become(first);
                days.goWithOneMore(second, d, person);
                days.go(second, d + 1, day, days.told);
                if (second.letterOf(days.world, person) == letter) {
                    return d;
                }
                days.go(first, d, d, days.told);
            }
            return NONE;
        }

        void findNet(int day) {
            keepNet(NONE, NONE, NONE);
            first.become(days.ahead[day]);
            days.crossTold(first, day, days.told);
            days.catchTold(first, day);
            for (int a = 0; a < days.world.cells; a++) {
                for (int b = a; b < days.world.cells; b++) {
                    second.become(first);
                    second.sell(a);
                    second.sell(b);
                    days.driftTold(second, day);
                    days.go(second, day + 1, DAYS - 1, days.told);
                    int owes = second.owesSold(days.world);
                    if (owes > netOwes) {
                        keepNet(owes, a, b);
                    }
                }
            }
        }

        void keepNet(int owes, int cell, int otherCell) {
            netOwes = owes;
            netCell[0] = cell;
            netCell[1] = otherCell;
        }
    }

    /** What was SEEN, held against what is supposed. */
    private static final class Guess {
        final Days days;
        final Log sightings;
        final Case supposed = new Case();
        final Water water = new Water();
        final int[] alike = new int[MOST_PEOPLE * LETTERS];

        Guess(Days ofDays, Log ofSightings) {
            days = ofDays;
            sightings = ofSightings;
        }

        int neverBits() {
            int bits = 0;
            supposed.asTold(days.world);
            for (int k = 0; k < days.crossings.size; k++) {
                supposed.without = k;
                if (comesOut()) {
                    bits |= 1 << k;
                }
            }
            return bits;
        }

        int luckyBits(int person) {
            int bits = 0;
            supposed.asTold(days.world);
            for (int v = 0; v < LUCKS; v++) {
                supposed.luck[person] = v;
                if (comesOut()) {
                    bits |= 1 << v;
                }
            }
            return bits;
        }

        int nextToAsk(int neverBits, int day) {
            Arrays.fill(alike, 0);
            supposed.asTold(days.world);
            for (int k = 0; k < days.crossings.size; k++) {
                if ((neverBits >> k & 1) != 0) {
                    supposed.without = k;
                    tallyLetters(day);
                }
            }
            int least = NONE;
            for (int p = 0; p < days.world.people; p++) {
                if (least == NONE || mostAlike(p) < mostAlike(least)) {
                    least = p;
                }
            }
            return least;
        }

        void tallyLetters(int day) {
            water.become(days.ahead[0]);
            days.go(water, 0, day, supposed);
            for (int p = 0; p < days.world.people; p++) {
                alike[p * LETTERS + water.letterOf(days.world, p)]++;
            }
        }

        int mostAlike(int person) {
            int most = 0;
            for (int letter = 0; letter < LETTERS; letter++) {
                most = Math.max(most, alike[person * LETTERS + letter]);
            }
            return most;
        }

        /** Whether all that was SEEN comes out so. */
        boolean comesOut() {
            int last = NONE;
            for (int i = 0; i < sightings.size; i++) {
                last = Math.max(last, sightings.day[i]);
            }
            water.become(days.ahead[0]);
            for (int d = 0; d <= last; d++) {
                days.go(water, d, d, supposed);
                if (!agreesWith(d)) {
                    return false;
                }
            }
            return true;
        }

        boolean agreesWith(int day) {
            for (int i = 0; i < sightings.size; i++) {
                int who = sightings.whom[i];
                if (sightings.day[i] == day && (who >= days.world.people
                        || water.letterOf(days.world, who) != sightings.letter[i])) {
                    return false;
                }
            }
            return true;
        }
    }

    /** FLOODED, exactly, and CROWD, by its LOTS. */
    private static final class Chance {
        final Days days;
        /** One for each DAY of FLOODS by chance: a DAY's two ways share all that was ahead of it. */
        final Water[] ahead = new Water[CHANCE_DAYS + 1];
        int sixteenths = 0;
        int lastDay = 0;
        int person = 0;
        int letter = 0;
        long above = 0;
        long below = 1;

        Chance(Days ofDays) {
            days = ofDays;
            for (int d = 0; d <= CHANCE_DAYS; d++) {
                ahead[d] = new Water();
            }
        }

        void weigh(int c, int day, int ofPerson, int ofLetter) {
            sixteenths = c;
            lastDay = day;
            person = ofPerson;
            letter = ofLetter;
            ahead[0].become(days.ahead[0]);
            above = ways(this, 0);
            below = 1;
            for (int d = 0; d <= day; d++) {
                below *= SIXTEENTHS;
            }
            // below is a power of two, so no other divisor can be shared
            for (int k = 0; k < 4 * CHANCE_DAYS && below > 1 && above % 2 == 0; k++) {
                above /= 2;
                below /= 2;
            }
        }

        /** How many of the equally likely ways, from a DAY on, bring the letter. */
        private static long ways(Chance chance, int day) {
            Days days = chance.days;
            if (day > chance.lastDay || day >= CHANCE_DAYS) {
                return chance.ahead[day].letterOf(days.world, chance.person) == chance.letter ? 1 : 0;
            }
            Water behind = chance.ahead[day + 1];
            behind.become(chance.ahead[day]);
            days.crossTold(behind, day, days.told);
            days.catchTold(behind, day);
            behind.drift(days.world, day);
            long sum = 0;
            if (chance.sixteenths < SIXTEENTHS) {
                sum += (SIXTEENTHS - chance.sixteenths) * ways(chance, day + 1);
            }
            if (chance.sixteenths > 0) {
                behind.drift(days.world, day);
                sum += chance.sixteenths * ways(chance, day + 1);
            }
            return sum;
        }

        Water crowdedWater(int seed, int day) {
            Water water = ahead[0];
            water.become(days.ahead[0]);
            int people = days.world.people;
            int lot = seed;
            for (int d = 0; d <= day && people > 0; d++) {
                lot = 1103515245 * lot + 12345;
                days.goWithOneMore(water, d, (lot >>> 16) % people);
            }
            return water;
        }
    }

    /** A row of a FORM, or LOST; its items are kept so that each fits its FORM. */
    private static final class Sheet {
        final int[] items = new int[MOST_ITEMS];
        int form = BYTES;
        int size = NONE;

        boolean isLost() {
            return size < 0;
        }

        void renew(int newForm, int n) {
            form = newForm;
            size = n;
            Arrays.fill(items, 0);
        }

        void put(int i, int v) {
            if (!holds(i, 1)) {
                return;
            }
            switch (form) {
                case BYTES: items[i] = (byte) v; break;
                case SHORTS: items[i] = (short) v; break;
                default: items[i] = v;
            }
        }

        /** Whether there are n items from i on; told without a sum that could wrap. */
        boolean holds(int i, int n) {
            return i >= 0 && n >= 0 && i <= size && n <= size - i;
        }
    }
}
