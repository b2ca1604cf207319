/**
 * An office in which people take on, stroke by stroke, the handwriting of those beside them when it is wet.
 *
 * All rows are made in the constructor and used again, so that no call makes an object.
 */
public final class CaughtHand {
    public static final int BAD = -1, NOT = -2, FULL = -3, NONE = -4, NULL = -11, CAST = -12, INDEX = -13, SIZE = -14;

    private static final int PLAIN = 0, STRONG = 1, LEFT = 2, TEACHER = 3;
    private static final int MOST_PEOPLE = 7;
    private static final int CHAIRS = 8;
    private static final int STROKES = 6;
    private static final int MOST_FORETOLD = 60;
    private static final int MOST_FILMED = 24;
    private static final int MOST_LIKELY = 8;
    private static final int MOST_PAPERS = 8;
    private static final int LAST_DAY = 9999;
    private static final int WEATHER_BITS = 30;
    private static final int ALL_WET = (1 << WEATHER_BITS) - 1;
    private static final int NOBODY = -1;
    // no exchange, one of 28, two of them
    private static final int MOST_TRIED = 1 + 28 + 28 * 28;

    private final Office live = new Office();
    private final Past past = new Past();
    private final Office kept = new Office();
    private final Past keptPast = new Past();
    private boolean hasImage;
    private final Office trial = new Office();
    private final Reader tape = new Reader();
    private final Sheets sheets = new Sheets();
    private final int[] trail = new int[MOST_FORETOLD + 1];
    private final int[] triedChains = new int[MOST_TRIED];
    private int tried;

    public CaughtHand() {
        hasImage = false;
    }

    // ---- 1 people, chairs, weather

    public int person(int kind, int strength, int hand, int chair) {
        int row = Row.packed(hand);
        if (!within(kind, PLAIN, TEACHER) || !within(strength, 0, 9) || row < 0 || !isChair(chair)) {
            return BAD;
        }
        if (live.sitterOn(chair) != NOBODY) {
            return NOT;
        }
        if (live.people >= MOST_PEOPLE) {
            return FULL;
        }
        past.forget();
        return live.add(kind, strength, row, chair);
    }

    public int of(int person, int what) {
        if (!live.has(person)) {
            return BAD;
        }
        switch (what) {
            case 0:
                return live.kindOf(person);
            case 1:
                return live.strengthOf(person);
            case 2:
                return Row.figures(live.ownOf(person));
            case 3:
                return live.chairOf(person);
            case 4:
                return Row.figures(live.writtenBy(person));
            case 5:
                return live.hands.takenBy(person);
            case 6:
                return live.lastsFrom(person);
            default:
                return BAD;
        }
    }

    public int till(int person, int place) {
        if (!live.has(person) || !isPlace(place)) {
            return BAD;
        }
        return live.hands.endOf(person, place);
    }

    public int sit(int person, int chair) {
        if (!live.has(person) || !isChair(chair)) {
            return BAD;
        }
        int before = live.chairOf(person);
        live.exchange(before, chair);
        return before;
    }

    public int at(int chair) {
        if (!isChair(chair)) {
            return BAD;
        }
        int sitter = live.sitterOn(chair);
        return sitter == NOBODY ? NONE : sitter;
    }

    public int dry(int chair, int is) {
        if (!isChair(chair) || !within(is, 0, 1)) {
            return BAD;
        }
        int was = live.dryChairs >> chair & 1;
        live.dryChairs = live.dryChairs & ~(1 << chair) | is << chair;
        return was;
    }

    public int weather(int bits) {
        if (!within(bits, 0, ALL_WET)) {
            return BAD;
        }
        int was = live.wetBits;
        live.wetBits = bits;
        return was;
    }

    public int lasting(int l) {
        if (!within(l, 1, 30)) {
            return BAD;
        }
        int was = live.lastingDays;
        live.lastingDays = l;
        return was;
    }

    public int type(int letter) {
        return tape.append(letter);
    }

    public int office() {
        trial.clear();
        int answer = tape.readInto(trial);
        tape.empty();
        if (answer < 0) {
            return answer;
        }
        live.moveIn(trial);
        past.forget();
        return answer;
    }

    public int count(int what) {
        switch (what) {
            case 0:
                return live.people;
            case 1:
                return live.hands.day;
            case 2:
                return live.isWet() ? 1 : 0;
            case 3:
                return live.dryChairs;
            case 4:
                return live.lastingDays;
            case 5:
                return past.known;
            case 6:
                return live.takenByAll();
            default:
                return BAD;
        }
    }

    // ---- days

    public int days(int n) {
        return pass(n, false);
    }

    public int drift(int n) {
        return pass(n, true);
    }

    public int undo() {
        if (past.known == 0) {
            return NONE;
        }
        past.takeBack(live.hands);
        return past.known;
    }

    public int seed(int v) {
        if (v < 0) {
            return BAD;
        }
        int was = live.draw;
        live.draw = v;
        return was;
    }

    private int pass(int n, boolean drifting) {
        if (!within(n, 1, MOST_FORETOLD)) {
            return BAD;
        }
        if (live.hands.day + n > LAST_DAY) {
            return FULL;
        }
        live.watchAll();
        int taken = 0;
        for (int k = 0; k < n; k++) {
            past.add(live.hands);
            taken += live.passDay(drifting ? live.drawWet() : live.isWet());
        }
        return taken;
    }

    // ---- 2 foretold

    public int writes(int person, int n) {
        if (!live.has(person) || !isForetold(n)) {
            return BAD;
        }
        foretellOne(person, n);
        return Row.figures(trial.writtenBy(person));
    }

    public int cheque(int person) {
        if (!live.has(person)) {
            return BAD;
        }
        trial.become(live);
        trial.watchOnly(person);
        trial.follow(person, MOST_FORETOLD, trail);
        int first = firstOther(live.ownOf(person), MOST_FORETOLD);
        return first > MOST_FORETOLD ? NONE : first;
    }

    public int out(int person, int q, int n) {
        if (!live.has(person) || !within(q, 1, STROKES) || !isForetold(n)) {
            return BAD;
        }
        foretellAll(n);
        int own = live.ownOf(person);
        for (int other = 0; other < live.people; other++) {
            if (Row.alike(own, trial.writtenBy(other)) >= q) {
                return 0;
            }
        }
        return 1;
    }

    public int seats(int person, int place, int stroke, int n, int what) {
        if (!live.has(person) || !isPlace(place) || !within(stroke, 0, 7) || !isForetold(n) || !within(what, 0, 2)) {
            return BAD;
        }
        int found = fewestExchanges(person, place, stroke, n);
        if (found < 0) {
            return NONE;
        }
        int first = found >> 6;
        int second = found & 63;
        if (what == 0) {
            return (first > 0 ? 1 : 0) + (second > 0 ? 1 : 0);
        }
        int asked = what == 1 ? first : second;
        return asked > 0 ? asked : NONE;
    }

    public int who(int paper, int n) {
        int row = Row.packed(paper);
        if (row < 0 || !isForetold(n)) {
            return BAD;
        }
        foretellAll(n);
        int set = 0;
        for (int person = 0; person < live.people; person++) {
            if (trial.writtenBy(person) == row) {
                set |= 1 << person;
            }
        }
        return set;
    }

    public int likely(int person, int paper, int n, int what) {
        int row = Row.packed(paper);
        if (!live.has(person) || row < 0 || !within(n, 0, MOST_LIKELY) || !within(what, 0, 1)) {
            return BAD;
        }
        int ways = weathersThatEndIn(person, row, n);
        // the lower number is a power of two, so the greatest one in the upper number is all that can be cancelled
        int common = ways & -ways;
        if (common == 0) {
            return what;
        }
        return (what == 0 ? ways : 1 << n) / common;
    }

    public int most(int place, int n, int what) {
        if (!isPlace(place) || !isForetold(n) || !within(what, 0, 1)) {
            return BAD;
        }
        foretellAll(n);
        int best = NONE;
        int bestCount = NONE;
        for (int person = 0; person < live.people; person++) {
            int writers = trial.writersOf(Row.stroke(live.ownOf(person), place), place);
            if (writers > bestCount) {
                best = person;
                bestCount = writers;
            }
        }
        return what == 0 ? best : bestCount;
    }

    public int dryOut(int person, int n) {
        if (!live.has(person) || !isForetold(n)) {
            return BAD;
        }
        if (keepsItsOwn(person, n, live.dryChairs)) {
            return 0;
        }
        // more than one is never needed: on a dry chair of its own a person takes nothing
        for (int chair = 0; chair < CHAIRS; chair++) {
            if (keepsItsOwn(person, n, live.dryChairs | 1 << chair)) {
                return 1 << chair;
            }
        }
        return NONE;
    }

    public int forger(int person, int other, int n, int what) {
        if (!live.has(person) || !live.has(other) || person == other || !isForetold(n) || !within(what, 0, 1)) {
            return BAD;
        }
        int best = NONE;
        int bestCount = NONE;
        for (int chair = 0; chair < CHAIRS; chair++) {
            int sitter = live.sitterOn(chair);
            if (sitter != NOBODY && sitter != person) {
                continue;
            }
            int forged = forgedOn(chair, person, other, n);
            if (forged > bestCount) {
                best = chair;
                bestCount = forged;
            }
        }
        return what == 0 ? best : bestCount;
    }

    public int two(int paper, int what) {
        int row = Row.packed(paper);
        if (row < 0 || !within(what, 0, 1)) {
            return BAD;
        }
        int pairs = 0;
        int first = NONE;
        for (int one = 0; one < live.people; one++) {
            for (int other = one + 1; other < live.people; other++) {
                if (!Row.needsBoth(row, live.ownOf(one), live.ownOf(other))) {
                    continue;
                }
                if (pairs == 0) {
                    first = 8 * one + other;
                }
                pairs++;
            }
        }
        return what == 0 ? pairs : first;
    }

    public int tree() {
        int changes = 0;
        int joined = 1;
        for (int k = 1; k < live.people; k++) {
            int next = nextJoined(joined);
            changes += changesTo(joined, next);
            joined |= 1 << next;
        }
        return changes;
    }

    public int signature(int person) {
        if (!live.has(person)) {
            return BAD;
        }
        for (int k = 1; k <= STROKES; k++) {
            if (!live.beginsLike(person, k)) {
                return k;
            }
        }
        return NONE;
    }

    public int image() {
        kept.become(live);
        keptPast.become(past);
        hasImage = true;
        return 1;
    }

    public int restore() {
        if (!hasImage) {
            return NONE;
        }
        live.become(kept);
        past.become(keptPast);
        return 1;
    }

    // ---- 3 sheets

    public int lasted(int person, int sheet, int lane, int i, int n) {
        if (!live.has(person) || !isSheet(sheet) || !isLane(lane) || !within(n, 1, MOST_PAPERS)) {
            return BAD;
        }
        int refused = sheets.refusal(sheet, lane, i, 2 * n);
        if (refused < 0) {
            return refused;
        }
        if (!arePapers(sheet, i, n)) {
            return NOT;
        }
        int set = 0;
        for (int l = 1; l <= 30; l++) {
            trial.become(live);
            trial.lastingDays = l;
            trial.watchOnly(person);
            trial.follow(person, MOST_FORETOLD, trail);
            if (areOnTrail(sheet, i, n)) {
                set |= 1 << l;
            }
        }
        return set;
    }

    public int film(int person, int n, int sheet, int lane, int i) {
        if (!live.has(person) || !within(n, 1, MOST_FILMED) || !isSheet(sheet) || !isLane(lane)) {
            return BAD;
        }
        int refused = sheets.refusal(sheet, lane, i, n);
        if (refused < 0) {
            return refused;
        }
        trial.become(live);
        trial.watchOnly(person);
        trial.follow(person, n, trail);
        for (int k = 1; k <= n; k++) {
            sheets.put(sheet, i + k - 1, Row.figures(trail[k]));
        }
        return n;
    }

    public int sheet(int sheet, int lane, int n) {
        if (!isSheet(sheet) || !isLane(lane) || n > Sheets.LONGEST) {
            return BAD;
        }
        if (n < 0) {
            return SIZE;
        }
        sheets.lay(sheet, lane, n);
        return n;
    }

    public int drop(int sheet) {
        if (!isSheet(sheet)) {
            return BAD;
        }
        return sheets.takeAway(sheet);
    }

    public int item(int sheet, int lane, int i, long v) {
        if (!isSheet(sheet) || !isLane(lane)) {
            return BAD;
        }
        int refused = sheets.refusal(sheet, lane, i, 1);
        if (refused < 0) {
            return refused;
        }
        sheets.put(sheet, i, v);
        return 1;
    }

    public int copy(int from, int i, int to, int j, int n) {
        if (!isSheet(from) || !isSheet(to)) {
            return BAD;
        }
        int refused = sheets.moveRefusal(from, i, to, j, n);
        if (refused < 0) {
            return refused;
        }
        sheets.move(from, i, to, j, n);
        return n;
    }

    // ---- what may be asked

    private static boolean within(int value, int least, int greatest) {
        return value >= least && value <= greatest;
    }

    private static boolean isChair(int chair) {
        return within(chair, 0, CHAIRS - 1);
    }

    private static boolean isPlace(int place) {
        return within(place, 0, STROKES - 1);
    }

    private static boolean isForetold(int n) {
        return within(n, 0, MOST_FORETOLD);
    }

    private static boolean isSheet(int sheet) {
        return within(sheet, 0, Sheets.MANY - 1);
    }

    private static boolean isLane(int lane) {
        return within(lane, Sheets.BYTES, Sheets.LONGS);
    }

    // ---- foretelling, on the trial office alone

    private void foretellAll(int n) {
        trial.become(live);
        trial.watchAll();
        trial.passDays(n);
    }

    private void foretellOne(int person, int n) {
        trial.become(live);
        trial.watchOnly(person);
        trial.passDays(n);
    }

    /** The first day of the trail on which another row is written; one above n if there is none. */
    private int firstOther(int row, int n) {
        for (int k = 0; k <= n && k < trail.length; k++) {
            if (trail[k] != row) {
                return k;
            }
        }
        return n + 1;
    }

    private boolean keepsItsOwn(int person, int n, int dryChairs) {
        trial.become(live);
        trial.dryChairs = dryChairs;
        trial.watchOnly(person);
        trial.follow(person, n, trail);
        return firstOther(live.ownOf(person), n) > n;
    }

    private int forgedOn(int chair, int person, int other, int n) {
        trial.become(live);
        trial.exchange(trial.chairOf(person), chair);
        trial.watchOnly(person);
        trial.passDays(n);
        return Row.alike(live.ownOf(other), trial.writtenBy(person));
    }

    private int weathersThatEndIn(int person, int row, int n) {
        trial.become(live);
        trial.watchOnly(person);
        int ways = 0;
        for (int wetDays = 0; wetDays < 1 << n; wetDays++) {
            trial.hands.become(live.hands);
            for (int k = 0; k < n; k++) {
                trial.passDay((wetDays >> k & 1) == 1);
            }
            if (trial.writtenBy(person) == row) {
                ways++;
            }
        }
        return ways;
    }

    /** The first exchange times 64 and the second one, each told as 8 times a chair and the other, or 0 for none. */
    private int fewestExchanges(int person, int place, int stroke, int n) {
        trial.become(live);
        tried = 0;
        if (endsSo(0, 0, person, place, stroke, n)) {
            return 0;
        }
        for (int first = 0; first < 64; first++) {
            if (isExchange(first) && endsSo(first, 0, person, place, stroke, n)) {
                return first << 6;
            }
        }
        for (int both = 0; both < 64 * 64; both++) {
            int first = both >> 6;
            int second = both & 63;
            if (isExchange(first) && isExchange(second) && endsSo(first, second, person, place, stroke, n)) {
                return both;
            }
        }
        return NONE;
    }

    private static boolean isExchange(int code) {
        return code >> 3 < (code & 7);
    }

    private boolean endsSo(int first, int second, int person, int place, int stroke, int n) {
        trial.exchange(first >> 3, first & 7);
        trial.exchange(second >> 3, second & 7);
        trial.watchOnly(person);
        boolean so = false;
        if (!wasTriedInVain(trial.chain())) {
            trial.hands.become(live.hands);
            trial.passDays(n);
            so = Row.stroke(trial.writtenBy(person), place) == stroke;
        }
        trial.exchange(second >> 3, second & 7);
        trial.exchange(first >> 3, first & 7);
        return so;
    }

    /** Most exchanges leave the same chain of models, and with it the same end; it is noted as tried, if it was not. */
    private boolean wasTriedInVain(int chain) {
        for (int k = 0; k < tried && k < MOST_TRIED; k++) {
            if (triedChains[k] == chain) {
                return true;
            }
        }
        if (tried < MOST_TRIED) {
            triedChains[tried] = chain;
            tried++;
        }
        return false;
    }

    // ---- the tree of hands

    private int nextJoined(int joined) {
        int next = 0;
        int least = STROKES + 1;
        for (int person = 0; person < live.people; person++) {
            if ((joined >> person & 1) == 1) {
                continue;
            }
            int changes = changesTo(joined, person);
            if (changes < least) {
                next = person;
                least = changes;
            }
        }
        return next;
    }

    private int changesTo(int joined, int person) {
        int least = STROKES;
        for (int other = 0; other < live.people; other++) {
            if ((joined >> other & 1) == 1) {
                least = Math.min(least, STROKES - Row.alike(live.ownOf(other), live.ownOf(person)));
            }
        }
        return least;
    }

    // ---- papers on a sheet

    private boolean arePapers(int sheet, int i, int n) {
        for (int k = 0; k < n; k++) {
            long day = sheets.valueAt(sheet, i + 2 * k);
            long paper = sheets.valueAt(sheet, i + 2 * k + 1);
            if (day < 0 || day > MOST_FORETOLD || paper < 0 || paper > Row.GREATEST || Row.packed((int) paper) < 0) {
                return false;
            }
        }
        return true;
    }

    private boolean areOnTrail(int sheet, int i, int n) {
        for (int k = 0; k < n; k++) {
            int day = (int) sheets.valueAt(sheet, i + 2 * k);
            int paper = (int) sheets.valueAt(sheet, i + 2 * k + 1);
            if (!isForetold(day) || trail[day] != Row.packed(paper)) {
                return false;
            }
        }
        return true;
    }

    /** Six strokes as one number of 18 bits, the first stroke highest, so that the first difference is the highest bit. */
    private static final class Row {
        static final int GREATEST = 777777;
        static final int ALL_BITS = 0777777;
        static final int FIRST_SHIFT = 15;

        static int packed(int figures) {
            if (figures < 0 || figures > GREATEST) {
                return BAD;
            }
            int row = 0;
            int rest = figures;
            for (int place = STROKES - 1; place >= 0; place--) {
                int stroke = rest % 10;
                if (stroke > 7) {
                    return BAD;
                }
                row |= stroke << FIRST_SHIFT - 3 * place;
                rest /= 10;
            }
            return row;
        }

        static int figures(int row) {
            int figures = 0;
            for (int place = 0; place < STROKES; place++) {
                figures = 10 * figures + stroke(row, place);
            }
            return figures;
        }

        static int stroke(int row, int place) {
            return row >> FIRST_SHIFT - 3 * place & 7;
        }

        static int firstStrokes(int row, int k) {
            return row >> 3 * (STROKES - k);
        }

        static int alike(int one, int other) {
            int places = 0;
            for (int place = 0; place < STROKES; place++) {
                if (stroke(one, place) == stroke(other, place)) {
                    places++;
                }
            }
            return places;
        }

        /** The place of the first stroke with a bit in it; only for differences that are not 0. */
        static int firstPlace(int differences) {
            int place = 0;
            while (place < STROKES - 1 && differences >> FIRST_SHIFT - 3 * place == 0) {
                place++;
            }
            return place;
        }

        static boolean needsBoth(int paper, int one, int other) {
            if (paper == one || paper == other) {
                return false;
            }
            for (int place = 0; place < STROKES; place++) {
                int stroke = stroke(paper, place);
                if (stroke != stroke(one, place) && stroke != stroke(other, place)) {
                    return false;
                }
            }
            return true;
        }
    }

    /** All that a day changes, and so all that has to be known to undo it. */
    private static final class Hands {
        int day;
        final int[] written = new int[MOST_PEOPLE];
        final int[] end = new int[MOST_PEOPLE * STROKES];

        void become(Hands other) {
            day = other.day;
            System.arraycopy(other.written, 0, written, 0, MOST_PEOPLE);
            System.arraycopy(other.end, 0, end, 0, MOST_PEOPLE * STROKES);
        }

        void begin(int person, int row) {
            written[person] = row;
            for (int place = 0; place < STROKES; place++) {
                end[person * STROKES + place] = NONE;
            }
        }

        int endOf(int person, int place) {
            return end[person * STROKES + place];
        }

        int takenBy(int person) {
            int taken = 0;
            for (int place = 0; place < STROKES; place++) {
                if (endOf(person, place) != NONE) {
                    taken++;
                }
            }
            return taken;
        }

        void giveBack(int person, int own) {
            for (int place = 0; place < STROKES; place++) {
                if (endOf(person, place) == day) {
                    write(person, place, own, NONE);
                }
            }
        }

        /** One stroke is written from now on as in the row, till the day told. */
        void write(int person, int place, int row, int till) {
            int mask = 7 << Row.FIRST_SHIFT - 3 * place;
            written[person] = written[person] & ~mask | row & mask;
            end[person * STROKES + place] = till;
        }
    }

    /** People on their chairs, the weather, and what days depend on: the one that is, the one kept, the one for trials. */
    private static final class Office {
        int people;
        int dryChairs;
        int wetBits;
        int lastingDays = 14;
        int draw = 1;
        final Hands hands = new Hands();
        final int[] kinds = new int[MOST_PEOPLE];
        final int[] strengths = new int[MOST_PEOPLE];
        final int[] own = new int[MOST_PEOPLE];
        final int[] sitters = new int[CHAIRS];
        int watching;
        final int[] watched = new int[MOST_PEOPLE];
        final int[] models = new int[MOST_PEOPLE];
        final int[] before = new int[MOST_PEOPLE];

        Office() {
            for (int chair = 0; chair < CHAIRS; chair++) {
                sitters[chair] = NOBODY;
            }
        }

        void clear() {
            people = 0;
            dryChairs = 0;
            wetBits = 0;
            hands.day = 0;
            for (int chair = 0; chair < CHAIRS; chair++) {
                sitters[chair] = NOBODY;
            }
        }

        /** Another one's people, chairs, weather and day; lasting and the draw stay. */
        void moveIn(Office other) {
            people = other.people;
            dryChairs = other.dryChairs;
            wetBits = other.wetBits;
            hands.become(other.hands);
            System.arraycopy(other.kinds, 0, kinds, 0, MOST_PEOPLE);
            System.arraycopy(other.strengths, 0, strengths, 0, MOST_PEOPLE);
            System.arraycopy(other.own, 0, own, 0, MOST_PEOPLE);
            System.arraycopy(other.sitters, 0, sitters, 0, CHAIRS);
        }

        void become(Office other) {
            moveIn(other);
            lastingDays = other.lastingDays;
            draw = other.draw;
        }

        /** Only for a free chair, and for fewer people than there may be. */
        int add(int kind, int strength, int row, int chair) {
            int person = people;
            if (person >= MOST_PEOPLE) {
                return FULL;
            }
            kinds[person] = kind;
            strengths[person] = strength;
            own[person] = row;
            hands.begin(person, row);
            sitters[chair] = person;
            people = person + 1;
            return person;
        }

        boolean has(int person) {
            return person >= 0 && person < people && person < MOST_PEOPLE;
        }

        int kindOf(int person) {
            return kinds[person];
        }

        int strengthOf(int person) {
            return strengths[person];
        }

        int ownOf(int person) {
            return own[person];
        }

        int writtenBy(int person) {
            return hands.written[person];
        }

        int sitterOn(int chair) {
            return chair >= 0 && chair < CHAIRS ? sitters[chair] : NOBODY;
        }

        int chairOf(int person) {
            for (int chair = 0; chair < CHAIRS; chair++) {
                if (sitters[chair] == person) {
                    return chair;
                }
            }
            return NOBODY;
        }

        void exchange(int one, int other) {
            if (one < 0 || one >= CHAIRS || other < 0 || other >= CHAIRS) {
                return;
            }
            int sitter = sitters[one];
            sitters[one] = sitters[other];
            sitters[other] = sitter;
        }

        boolean isDry(int chair) {
            return (dryChairs >> chair & 1) == 1;
        }

        boolean isWet() {
            return (wetBits >> hands.day % WEATHER_BITS & 1) == 1;
        }

        boolean drawWet() {
            draw = draw * 1103515245 + 12345 & 0x7fffffff;
            return (draw >> 16 & 1) == 1;
        }

        /** How many days a stroke lasts that is taken of this person. */
        int lastsFrom(int person) {
            switch (kinds[person]) {
                case STRONG:
                    return 2 * lastingDays;
                case TEACHER:
                    return 2 * lastingDays + 7;
                default:
                    return lastingDays;
            }
        }

        int takenByAll() {
            int taken = 0;
            for (int person = 0; person < people; person++) {
                taken += hands.takenBy(person);
            }
            return taken;
        }

        int writersOf(int stroke, int place) {
            int writers = 0;
            for (int person = 0; person < people; person++) {
                if (Row.stroke(hands.written[person], place) == stroke) {
                    writers++;
                }
            }
            return writers;
        }

        /** Whether anybody else writes the first k strokes of a person's own. */
        boolean beginsLike(int person, int k) {
            int first = Row.firstStrokes(own[person], k);
            for (int other = 0; other < people; other++) {
                if (other != person && Row.firstStrokes(hands.written[other], k) == first) {
                    return true;
                }
            }
            return false;
        }

        // of whom one takes does not change while nobody moves, so it is found once for many days

        void watchAll() {
            watching = people;
            for (int person = 0; person < people; person++) {
                watched[person] = person;
                models[person] = modelOf(person);
            }
        }

        /** Only this person and the chain of those of whom it may come to take: strength grows along it, so it ends. */
        void watchOnly(int person) {
            watching = 0;
            int next = person;
            for (int k = 0; k < MOST_PEOPLE && has(next); k++) {
                watched[k] = next;
                models[next] = modelOf(next);
                watching = k + 1;
                next = models[next];
            }
        }

        /** Those watched, in their order, as one number. */
        int chain() {
            int chain = 0;
            for (int k = 0; k < watching; k++) {
                chain = chain << 3 | watched[k] + 1;
            }
            return chain;
        }

        int modelOf(int person) {
            int chair = chairOf(person);
            if (chair == NOBODY || isDry(chair) || kinds[person] == TEACHER) {
                return NOBODY;
            }
            int below = strongerOn(chair - 1, person);
            int above = strongerOn(chair + 1, person);
            if (below == NOBODY || above == NOBODY) {
                return below == NOBODY ? above : below;
            }
            if (strengths[below] == strengths[above]) {
                return Math.min(below, above);
            }
            return strengths[below] > strengths[above] ? below : above;
        }

        int strongerOn(int chair, int person) {
            if (chair < 0 || chair >= CHAIRS || isDry(chair)) {
                return NOBODY;
            }
            int sitter = sitters[chair];
            return has(sitter) && strengths[sitter] > strengths[person] ? sitter : NOBODY;
        }

        /** One day of those watched goes by: how many strokes were taken. */
        int passDay(boolean wet) {
            for (int k = 0; k < watching; k++) {
                hands.giveBack(watched[k], own[watched[k]]);
            }
            int taken = 0;
            if (wet) {
                System.arraycopy(hands.written, 0, before, 0, MOST_PEOPLE);
                for (int k = 0; k < watching; k++) {
                    taken += take(watched[k]);
                }
            }
            hands.day++;
            return taken;
        }

        int take(int person) {
            int model = models[person];
            if (!has(model)) {
                return 0;
            }
            int seen = kinds[person] == LEFT ? before[model] ^ Row.ALL_BITS : before[model];
            if (seen == before[person]) {
                return 0;
            }
            int place = Row.firstPlace(seen ^ before[person]);
            hands.write(person, place, seen, hands.day + lastsFrom(model));
            return 1;
        }

        void passDays(int n) {
            for (int k = 0; k < n; k++) {
                passDay(isWet());
            }
        }

        /** Leaves in the trail what one writes behind each of 0 to n days. */
        void follow(int person, int n, int[] trail) {
            for (int k = 0; k <= n && k < trail.length; k++) {
                if (k > 0) {
                    passDay(isWet());
                }
                trail[k] = hands.written[person];
            }
        }
    }

    /** The latest days as they were when they began, the oldest given up for the newest. */
    private static final class Past {
        static final int LONGEST = 8;
        final Hands[] ring = new Hands[LONGEST];
        int next;
        int known;

        Past() {
            for (int k = 0; k < LONGEST; k++) {
                ring[k] = new Hands();
            }
        }

        void forget() {
            known = 0;
        }

        void add(Hands hands) {
            ring[next & 7].become(hands);
            next = next + 1 & 7;
            known = Math.min(known + 1, LONGEST);
        }

        /** Only while one is known. */
        void takeBack(Hands hands) {
            next = next + LONGEST - 1 & 7;
            known--;
            hands.become(ring[next]);
        }

        void become(Past other) {
            for (int k = 0; k < LONGEST; k++) {
                ring[k].become(other.ring[k]);
            }
            next = other.next;
            known = other.known;
        }
    }

    /** The tape, and the place on it up to which it is read. */
    private static final class Reader {
        static final int LONGEST = 130;
        static final int END = -1;
        static final int FIRST_FAULT = -20;
        static final String KINDS = "pslt";
        final int[] letters = new int[LONGEST];
        int length;
        int place;

        int append(int letter) {
            if (letter < 32 || letter > 126) {
                return BAD;
            }
            if (length >= LONGEST) {
                return FULL;
            }
            letters[length] = letter;
            length++;
            return length;
        }

        void empty() {
            length = 0;
        }

        /** Reads the tape into an empty office: how many people, or the fault. */
        int readInto(Office office) {
            place = 0;
            boolean more = true;
            for (int k = 0; k < MOST_PEOPLE && more; k++) {
                if (!readPerson(office)) {
                    return fault();
                }
                more = office.people < MOST_PEOPLE && skips(',');
            }
            if (skips(';') && !readWeather(office)) {
                return fault();
            }
            return letter() == END ? office.people : fault();
        }

        boolean readPerson(Office office) {
            int kind = readKind();
            if (kind < 0) {
                return false;
            }
            int strength = readDigit(9);
            if (strength < 0) {
                return false;
            }
            int row = readHand();
            if (row < 0 || !skips('@')) {
                return false;
            }
            int chair = readFreeChair(office);
            return chair >= 0 && office.add(kind, strength, row, chair) >= 0;
        }

        int readKind() {
            int letter = letter();
            int kind = letter == END ? END : KINDS.indexOf((char) letter);
            if (kind >= 0) {
                place++;
            }
            return kind;
        }

        int readDigit(int greatest) {
            int digit = letter() - '0';
            if (digit < 0 || digit > greatest) {
                return END;
            }
            place++;
            return digit;
        }

        int readHand() {
            int row = 0;
            for (int k = 0; k < STROKES; k++) {
                int stroke = readDigit(7);
                if (stroke < 0) {
                    return END;
                }
                row = row << 3 | stroke;
            }
            return row;
        }

        int readFreeChair(Office office) {
            int chair = letter() - '0';
            if (chair < 0 || chair >= CHAIRS || office.sitterOn(chair) != NOBODY) {
                return END;
            }
            place++;
            return chair;
        }

        /** Whether there is at least one sign; what is behind the last one is left to the caller. */
        boolean readWeather(Office office) {
            int signs = 0;
            while (signs < WEATHER_BITS && (letter() == '.' || letter() == 'r')) {
                if (letter() == 'r') {
                    office.wetBits |= 1 << signs;
                }
                place++;
                signs++;
            }
            return signs > 0;
        }

        boolean skips(char sign) {
            if (letter() != sign) {
                return false;
            }
            place++;
            return true;
        }

        /** The next letter that is no blank, the place being moved to it; END behind the last one. */
        int letter() {
            while (place < length && letters[place] == ' ') {
                place++;
            }
            return place < length ? letters[place] : END;
        }

        int fault() {
            return FIRST_FAULT - place;
        }
    }

    /** Four sheets, each nothing or a row of a lane. */
    private static final class Sheets {
        static final int MANY = 4;
        static final int LONGEST = 24;
        static final int BYTES = 0, SHORTS = 1, INTS = 2, LONGS = 3;
        static final int NOTHING = -1;
        final int[] lanes = new int[MANY];
        final int[] sizes = new int[MANY];
        final long[][] rows = new long[MANY][LONGEST];

        Sheets() {
            for (int sheet = 0; sheet < MANY; sheet++) {
                sizes[sheet] = NOTHING;
            }
        }

        void lay(int sheet, int lane, int n) {
            lanes[sheet] = lane;
            sizes[sheet] = n;
            for (int i = 0; i < LONGEST; i++) {
                rows[sheet][i] = 0;
            }
        }

        int takeAway(int sheet) {
            int size = sizes[sheet];
            sizes[sheet] = NOTHING;
            return size == NOTHING ? NULL : size;
        }

        /** Why n items from i on can't be taken as of that lane; 0 if they can. */
        int refusal(int sheet, int lane, int i, int n) {
            if (sizes[sheet] == NOTHING) {
                return NULL;
            }
            if (lanes[sheet] != lane) {
                return CAST;
            }
            return holds(sheet, i, n) ? 0 : INDEX;
        }

        int moveRefusal(int from, int i, int to, int j, int n) {
            if (sizes[from] == NOTHING || sizes[to] == NOTHING) {
                return NULL;
            }
            if (lanes[from] != lanes[to]) {
                return CAST;
            }
            return holds(from, i, n) && holds(to, j, n) ? 0 : INDEX;
        }

        boolean holds(int sheet, int i, int n) {
            return i >= 0 && n >= 0 && (long) i + n <= sizes[sheet];
        }

        long valueAt(int sheet, int i) {
            return holds(sheet, i, 1) ? rows[sheet][i] : NOTHING;
        }

        void put(int sheet, int i, long value) {
            if (holds(sheet, i, 1)) {
                rows[sheet][i] = lowestBits(lanes[sheet], value);
            }
        }

        void move(int from, int i, int to, int j, int n) {
            System.arraycopy(rows[from], i, rows[to], j, n);
        }

        static long lowestBits(int lane, long value) {
            switch (lane) {
                case BYTES:
                    return (byte) value;
                case SHORTS:
                    return (short) value;
                case INTS:
                    return (int) value;
                default:
                    return value;
            }
        }
    }
}
