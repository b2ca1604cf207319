/** Promises 13 to 16, days, drifts, undone: a test for each sentence that names an edge. */
public final class EdgeDaysTest {
    private static final int BAD = -1, FULL = -3, NONE = -4;
    private static final int GREATEST = Integer.MAX_VALUE;
    private static final int LAST_DAY = 9999;
    private static final Due due = new Due();
    private static final Edges edges = new Edges(due);

    public static void main(String[] args) {
        all().end();
    }

    static Due all() {
        numbersOfDays();
        ownAgain();
        whoLooks();
        ofWhom();
        whatIsTaken();
        drifts();
        undone();
        seeds();
        return due;
    }

    // ---- promise 13: how many days

    private static void numbersOfDays() {
        due.part("13: n DAYS (1 .. 60)"); edges.within("days", 1, 60, (x, v) -> x.days(v));
        due.part("13: Then it is the next DAY"); nextDay();
        due.part("13: each by itself may be UNDONE"); eachByItself();
        due.part("13: how many STROKES were taken"); howManyTaken();
        due.part("13: FULL: THE DAY would be above 9999"); fullDays(false);
        due.part("13: BAD ahead of all others"); badAheadOfFull(false);
        due.part("13: a DAY is WET, if that bit of it is set at which it is, left over by 30"); wetByBit();
    }

    private static void nextDay() {
        CaughtHand x = new CaughtHand();
        int day = 0;
        for (int n : new int[] {1, 2, 30, 59, 60, 1}) {
            x.days(n);
            day += n;
            due.is("day", x.count(1), day);
        }
    }

    private static void eachByItself() {
        for (int n = 1; n <= 9; n++) {
            CaughtHand x = edges.with("p0000000@0,p9777777@1;" + Edges.WET);
            x.days(1);
            x.days(n);
            due.is("known", x.count(5), Math.min(8, n + 1));
            due.is("undo", x.undo(), Math.min(8, n + 1) - 1);
            due.is("one day less", x.count(1), n);
            due.is("one stroke less", x.of(0, 5), Math.min(n, 6));
        }
    }

    private static void howManyTaken() {
        due.is("of nobody", new CaughtHand().days(60), 0);
        due.is("of one alone", edges.with("p0000000@0;" + Edges.WET).days(60), 0);
        due.is("of one", edges.with("p0000000@0,p9777777@1;r").days(1), 1);
        due.is("of seven of like strength", edges.with(Edges.SEVEN.replaceAll("p[0-6]", "p5") + ";r").days(1), 0);
        CaughtHand six = edges.with(Edges.SEVEN + ";r..r");
        due.is("of all but the strongest", six.days(1), 6);
        due.is("of a dry day", six.days(1), 0);
        due.is("of a dry and a wet day", six.days(2), 6);
        due.is("of a wet and a dry day", edges.with(Edges.SEVEN + ";r").days(2), 6);
        due.is("of a stroke a day", edges.with("p0000000@0,p9777777@1;" + Edges.WET).days(5), 5);
        due.is("of no more than six", edges.with("p0000000@0,p9777777@1;" + Edges.WET).days(14), 6);
    }

    /** An object whose day is told, 60 at a time, then the rest. */
    private static CaughtHand onDay(int day) {
        CaughtHand x = new CaughtHand();
        for (int k = 0; k < day / 60; k++) {
            x.days(60);
        }
        if (day % 60 > 0) {
            x.days(day % 60);
        }
        return x;
    }

    private static long pass(CaughtHand x, int n, boolean drift) {
        return drift ? x.drift(n) : x.days(n);
    }

    private static void fullDays(boolean drift) {
        for (int n : new int[] {1, 2, 9, 59, 60}) {
            CaughtHand last = onDay(LAST_DAY - n);
            due.is("to the last day by " + n, pass(last, n, drift), 0);
            due.is("day", last.count(1), LAST_DAY);
            due.is("one more", pass(last, 1, drift), FULL);
            due.is("day", last.count(1), LAST_DAY);
            CaughtHand above = onDay(LAST_DAY - n + 1);
            int known = above.count(5);
            due.is("above it by " + n, pass(above, n, drift), FULL);
            due.is("day", above.count(1), LAST_DAY - n + 1);
            due.is("known", above.count(5), known);
            due.is("the draw", above.seed(9), 1);
        }
        CaughtHand x = onDay(LAST_DAY);
        due.is("60 more", pass(x, 60, drift), FULL);
        due.is("undo", x.undo(), 7);
        due.is("again", pass(x, 1, drift), 0);
        due.is("day", x.count(1), LAST_DAY);
        x.weather(1 << LAST_DAY % 30);
        due.is("wet", x.count(2), 1);
        x.weather(1 << (LAST_DAY + 1) % 30);
        due.is("not wet", x.count(2), 0);
    }

    private static void badAheadOfFull(boolean drift) {
        CaughtHand x = onDay(LAST_DAY);
        due.is("none", pass(x, 0, drift), BAD);
        due.is("61", pass(x, 61, drift), BAD);
        due.is("-1", pass(x, -1, drift), BAD);
        due.is("very many", pass(x, GREATEST, drift), BAD);
        due.is("one", pass(x, 1, drift), FULL);
    }

    private static void wetByBit() {
        for (int bit : new int[] {0, 1, 14, 28, 29}) {
            CaughtHand x = edges.with("p0000000@0,p9777777@1");
            x.weather(1 << bit);
            for (int day = 0; day <= 90; day++) {
                due.is("bit " + bit + ", day " + day, x.days(1), day % 30 == bit ? 1 : 0);
            }
        }
    }

    // ---- promise 13: own again

    private static void ownAgain() {
        due.part("13: first STROKES that are so till this DAY are one's own again"); ownAgainBehindThatDay();
        due.part("13: own again, wherever one sits and whatever the weather"); ownAgainAnywhere();
        due.part("13: first own again, then, if it is WET, taken"); ownAgainAheadOfTaking();
    }

    private static void ownAgainBehindThatDay() {
        for (int l : new int[] {1, 2, 14, 29, 30}) {
            CaughtHand x = edges.with("p0000000@0,p9100000@1;r");
            x.lasting(l);
            x.days(1);
            x.weather(0);
            for (int day = 1; day <= l; day++) {
                due.is("on day " + day + " of " + l, x.of(0, 4), 100000);
                x.days(1);
            }
            due.is("behind it", x.of(0, 4), 0);
            due.is("till", x.till(0, 0), NONE);
            due.is("none", x.count(6), 0);
        }
        CaughtHand y = edges.with("p0000000@0,p9123456@1;rr");
        y.lasting(5);
        int[] writes = {0, 100000, 120000, 120000, 120000, 120000, 20000, 0};
        for (int day = 0; day < writes.length; day++) {
            due.is("on day " + day, y.of(0, 4), writes[day]);
            y.days(1);
        }
    }

    private static void ownAgainAnywhere() {
        for (int way = 0; way < 4; way++) {
            CaughtHand x = edges.with("p0000000@0,p9100000@1;r");
            x.lasting(2);
            x.days(1);
            x.weather(way == 3 ? 1 << 2 : 0);
            if (way == 1) {
                x.sit(0, 7);
            } else if (way >= 2) {
                x.dry(0, 1);
            }
            x.days(1);
            due.is("on the day, way " + way, x.of(0, 4), 100000);
            due.is("none taken", x.days(1), 0);
            due.is("behind it", x.of(0, 4), 0);
        }
    }

    private static void ownAgainAheadOfTaking() {
        CaughtHand x = edges.with("p0000000@0,p9110000@1;" + Edges.WET);
        x.lasting(1);
        for (int day = 0; day < 5; day++) {
            due.is("taken on day " + day, x.days(1), 1);
            due.is("the first one again", x.of(0, 4), 100000);
            due.is("till", x.till(0, 0), day + 1);
        }
        CaughtHand y = edges.with("p0000000@0,p9100000@1;r");
        y.lasting(30);
        y.days(30);
        due.is("on day 30", y.till(0, 0), 30);
        due.is("taken anew", y.days(1), 1);
        due.is("till", y.till(0, 0), 60);
        // on day 1 the second one writes its own 2 again, and not the 3 it took on day 0
        CaughtHand z = edges.with("p1000000@0,p2200000@1,p9300000@2;rr");
        z.lasting(1);
        z.days(2);
        due.is("what is written behind it is looked at", z.of(0, 4), 200000);
    }

    // ---- promise 13: who looks at whom

    private static void whoLooks() {
        due.part("13: all at once, each by what was WRITTEN then"); allAtOnce();
        due.part("13: one that is not on a DRY CHAIR"); onADryChair();
        due.part("13: (and is no TEACHER) never takes"); teachers();
        due.part("13: looks at those beside it: CHAIRS 1 less, 1 more"); beside();
        due.part("13: not on DRY ones"); notOnDryOnes();
    }

    private static void allAtOnce() {
        CaughtHand up = edges.with("p0100000@0,p1200000@1,p2300000@2,p3400000@3;r");
        due.is("taken", up.days(1), 3);
        int[] writes = {200000, 300000, 400000, 400000};
        CaughtHand down = edges.with("p3400000@0,p2300000@1,p1200000@2,p0100000@3;r");
        due.is("taken", down.days(1), 3);
        for (int k = 0; k < 4; k++) {
            due.is("upwards", up.of(k, 4), writes[k]);
            due.is("downwards", down.of(3 - k, 4), writes[k]);
        }
    }

    private static void onADryChair() {
        for (int chair = 0; chair < 8; chair++) {
            CaughtHand x = edges.with("p0000000@2,p9111111@3;r", 1 << chair);
            due.is("chair " + chair + " dry", x.days(1), chair == 2 || chair == 3 ? 0 : 1);
        }
        due.is("all dry", edges.with("p0000000@2,p9111111@3;r", 255).days(1), 0);
        due.is("all others dry", edges.with("p0000000@2,p9111111@3;r", 255 - 12).days(1), 1);
    }

    private static void teachers() {
        for (int kind = 0; kind < 4; kind++) {
            CaughtHand x = edges.with("pslt".charAt(kind) + "0000000@0,t9111111@1;" + Edges.WET);
            x.lasting(30);
            due.is("kind " + kind, x.days(20), kind == 3 ? 0 : 6);
        }
    }

    private static void beside() {
        for (int one = 0; one < 8; one++) {
            for (int other = 0; other < 8; other++) {
                if (one != other) {
                    CaughtHand x = edges.with("p0000000@" + one + ",p9111111@" + other + ";r");
                    due.is(one + " by " + other, x.days(1), one - other == 1 || other - one == 1 ? 1 : 0);
                }
            }
        }
    }

    private static void notOnDryOnes() {
        String text = "p0000000@1,p8111111@0,p9222222@2;r";
        int[][] want = {{0, 200000}, {1, 200000}, {4, 100000}, {5, 0}, {2, 0}, {248, 200000}};
        for (int[] w : want) {
            CaughtHand x = edges.with(text, w[0]);
            x.days(1);
            due.is("dry " + w[0], x.of(0, 4), w[1]);
        }
    }

    private static void ofWhom() {
        due.part("13: of more STRENGTH than its own"); ofMoreStrength();
        due.part("13: the one of most STRENGTH, of like ones the least"); theStrongest();
        due.part("13: the one: no other, if there is nothing to take of it"); noOther();
    }

    private static void ofMoreStrength() {
        for (int one = 0; one <= 9; one++) {
            for (int other = 0; other <= 9; other++) {
                CaughtHand x = edges.with("p" + one + "000000@3,p" + other + "111111@4;r");
                x.days(1);
                due.is("strength " + one + " by " + other, x.of(0, 5), other > one ? 1 : 0);
                due.is("strength " + other + " by " + one, x.of(1, 5), one > other ? 1 : 0);
            }
        }
    }

    private static void theStrongest() {
        for (int below = 0; below <= 9; below++) {
            for (int above = 0; above <= 9; above++) {
                int of = below == 0 && above == 0 ? 0 : below >= above ? 200000 : 300000;
                CaughtHand x = edges.with("p0000000@3,p" + below + "222222@2,p" + above + "333333@4;r");
                due.is("the least below, " + below + " " + above, x.writes(0, 1), of);
                CaughtHand y = edges.with("p0000000@3,p" + below + "222222@4,p" + above + "333333@2;r");
                due.is("the least above, " + below + " " + above, y.writes(0, 1), of);
            }
        }
        due.is("the least below, it is the last", edges.with("p5222222@2,p5333333@4,p0000000@3;r").writes(2, 1), 200000);
        due.is("the least above, it is between", edges.with("p5222222@4,p0000000@3,p5333333@2;r").writes(1, 1), 200000);
    }

    private static void noOther() {
        CaughtHand x = edges.with("p0111111@1,p5222222@0,p6111111@2;r");
        due.is("taken", x.days(1), 0);
        CaughtHand like = edges.with("p0111111@1,p6111111@0,p6222222@2;r");
        due.is("taken of like ones", like.days(1), 0);
    }

    // ---- promise 13: what is taken

    private static void whatIsTaken() {
        due.part("13: of that one's STROKES the first which it does not WRITE so there"); theFirstUnlike();
        due.part("13: PLAIN: takes a STROKE as it is; LEFT: takes 7 less a STROKE"); asItWouldTakeIt();
        due.part("13: till this DAY and as many as it LASTS"); asManyAsItLasts();
    }

    private static void theFirstUnlike() {
        int[] rest = {765432, 65432, 5432, 432, 32, 2, 0};
        for (int place = 0; place <= 6; place++) {
            // alike up to the place, unlike from there on
            int own = 765432 - rest[place];
            CaughtHand x = edges.with("p0" + sixOf(own) + "@0,p9765432@1;r");
            due.is("taken", x.days(1), place < 6 ? 1 : 0);
            for (int k = 0; k < 6; k++) {
                due.is("till at " + k, x.till(0, k), k == place ? 14 : NONE);
            }
            due.is("writes", x.of(0, 4), place < 6 ? 765432 - rest[place + 1] : 765432);
        }
        CaughtHand last = edges.with("p0000000@0,p9000001@1;r");
        last.days(1);
        due.is("the last one alone", last.of(0, 4), 1);
        CaughtHand some = edges.with("p0010203@0,p9110233@1;rrr");
        int[] writes = {10203, 110203, 110233, 110233};
        for (int day = 0; day < writes.length; day++) {
            due.is("day by day", some.of(0, 4), writes[day]);
            some.days(1);
        }
    }

    private static String sixOf(int hand) {
        StringBuilder s = new StringBuilder().append(hand);
        while (s.length() < 6) {
            s.insert(0, '0');
        }
        return s.toString();
    }

    private static void asItWouldTakeIt() {
        for (int own = 0; own <= 7; own++) {
            for (int seen = 0; seen <= 7; seen++) {
                String model = ",p9" + sixOf(111111 * seen) + "@1;r";
                for (char kind : new char[] {'p', 's', 'l'}) {
                    int taken = kind == 'l' ? 7 - seen : seen;
                    CaughtHand x = edges.with(kind + "0" + sixOf(111111 * own) + "@0" + model);
                    due.is(kind + " " + own + " of " + seen, x.days(1), taken == own ? 0 : 1);
                    due.is(kind + " " + own + " writes", x.of(0, 4), 11111 * own + 100000 * taken);
                }
            }
        }
        // a left one of a left one that took: by what that one writes
        CaughtHand y = edges.with("l0000000@0,l1000000@1,p2000000@2;rr");
        y.days(2);
        due.is("the second", y.of(1, 4), 770000);
        due.is("the first, on day 0 7 of its 0, on day 1 0 of its 7", y.of(0, 4), 0);
        due.is("which is like its own, but taken", y.till(0, 0), 15);
    }

    private static void asManyAsItLasts() {
        int[] lasts = {1, 2, 1, 9};
        int[] lastsLong = {30, 60, 30, 67};
        for (int kind = 0; kind < 4; kind++) {
            for (char taker : new char[] {'p', 's', 'l'}) {
                for (int day : new int[] {0, 1, 29, 30}) {
                    String text = taker + "0222222@0," + "pslt".charAt(kind) + "9000000@1";
                    CaughtHand x = edges.with(text);
                    x.lasting(1);
                    taken(x, day);
                    due.is(taker + " of kind " + kind + " on day " + day + ", L 1", x.till(0, 0), day + lasts[kind]);
                    CaughtHand y = edges.with(text);
                    y.lasting(30);
                    taken(y, day);
                    due.is(taker + " of kind " + kind + " on day " + day + ", L 30", y.till(0, 0), day + lastsLong[kind]);
                }
            }
        }
    }

    private static void taken(CaughtHand x, int day) {
        if (day > 0) {
            x.days(day);
        }
        x.weather(1 << day % 30);
        x.days(1);
    }

    // ---- promise 14

    private static void drifts() {
        due.part("14: a DRIFT of n DAYS (1 .. 60)"); edges.within("drift", 1, 60, (x, v) -> x.drift(v));
        due.part("14: FULL: THE DAY would be above 9999"); fullDays(true);
        due.part("14: BAD ahead of all others"); badAheadOfFull(true);
        due.part("14: each by itself may be UNDONE (likewise)"); driftUndone();
        due.part("14: THE DRAW becomes the lowest 31 bits of itself times 1103515245 and 12345 more"); draws();
        due.part("14: WET, if its bit 16 is set"); bitSixteen();
        due.part("14: each time"); eachTime();
        due.part("14: (WEATHER is of no matter)"); weatherOfNoMatter();
    }

    private static void driftUndone() {
        CaughtHand x = edges.with("p0000000@0,p9777777@1");
        x.days(1);
        x.drift(9);
        due.is("known", x.count(5), 8);
        for (int k = 7; k >= 0; k--) {
            due.is("undo", x.undo(), k);
            due.is("day", x.count(1), k + 2);
        }
        due.is("undo", x.undo(), NONE);
        due.is("strokes", x.count(6), 0);
    }

    private static void draws() {
        int[][] draws = {{0, 12345}, {1, 1103527590}, {2, 59559187}, {2147483647, 1043980748}, {2088216195, 0}, {230538014, 2147483647},
            {1742513795, 65536}, {576240414, 2147418111}};
        for (int[] draw : draws) {
            CaughtHand x = new CaughtHand();
            x.seed(draw[0]);
            x.drift(1);
            due.is("behind " + draw[0], x.seed(0), draw[1]);
        }
    }

    private static void bitSixteen() {
        // a seed, and whether the next draw has bit 16: that bit alone, all but it, the bits beside it, all below it, and so on
        int[][] seeds = {{1742513795, 1}, {576240414, 0}, {1915364995, 0}, {1396811395, 0}, {2088216195, 0}, {230538014, 1},
            {2032319262, 0}, {1686616862, 1}, {1452708328, 1}};
        for (int[] seed : seeds) {
            CaughtHand x = edges.with("p0000000@0,p9777777@1");
            x.seed(seed[0]);
            due.is("taken behind " + seed[0], x.drift(1), seed[1]);
        }
    }

    private static void eachTime() {
        long draw = 1;
        int wet = 0;
        CaughtHand x = edges.with("p0000000@0,p9777777@1");
        x.lasting(30);
        for (int k = 0; k < 8; k++) {
            draw = (draw * 1103515245L + 12345L) % 2147483648L;
            wet += (int) (draw / 65536 % 2);
        }
        due.is("taken", x.drift(8), Math.min(wet, 6));
        due.is("drawn eight times", x.seed(1), draw);
        for (int n : new int[] {1, 2, 59, 60}) {
            CaughtHand y = new CaughtHand();
            CaughtHand z = new CaughtHand();
            y.drift(n);
            for (int k = 0; k < n; k++) {
                z.drift(1);
            }
            due.is("at once and one by one", y.seed(0), z.seed(0));
            due.is("days", y.count(1), n);
        }
        CaughtHand days = new CaughtHand();
        days.days(60);
        due.is("days draw nothing", days.seed(0), 1);
    }

    private static void weatherOfNoMatter() {
        CaughtHand x = edges.with("p0000000@0,p9777777@1;" + Edges.WET);
        x.seed(576240414);
        due.is("a dry one in wet weather", x.drift(1), 0);
        CaughtHand y = edges.with("p0000000@0,p9777777@1");
        y.seed(1742513795);
        due.is("a wet one in dry weather", y.drift(1), 1);
        due.is("the weather stays", x.weather(0), 1073741823);
    }

    // ---- promise 15

    private static void undone() {
        due.part("15: NONE: none is known"); noneKnown();
        due.part("15: (8 are known, older ones lost)"); eightKnown();
        due.part("15: how many more may be"); howManyMore();
        due.part("15: what is WRITTEN, till when, THE DAY are as ahead of it"); asAheadOfIt();
        due.part("15: whatever was done since"); whateverWasDoneSince();
        due.part("15: (THE DRAW stays)"); drawStays();
        due.part("15: an OFFICE, a new PERSON leave nothing to be UNDONE"); nothingLeft();
    }

    private static void noneKnown() {
        CaughtHand x = edges.with("p0000000@0,p9777777@1;r");
        String before = Due.stateOf(x);
        due.is("at first", x.undo(), NONE);
        x.days(1);
        due.is("one", x.undo(), 0);
        due.is("no more", x.undo(), NONE);
        due.is("no more", x.undo(), NONE);
        due.so("as at first", Due.stateOf(x).equals(before));
    }

    private static CaughtHand behind(int days) {
        CaughtHand x = edges.with("p0000000@0,s5765432@1,l2333333@2;rr.rrr.rrrrr.rrr");
        x.lasting(2);
        for (int k = 0; k < days; k++) {
            x.days(1);
        }
        return x;
    }

    private static void eightKnown() {
        for (int days : new int[] {1, 2, 7, 8, 9, 10, 15, 16, 17, 24, 25}) {
            CaughtHand x = behind(days);
            int known = Math.min(days, 8);
            for (int k = 1; k <= known; k++) {
                due.is("undo", x.undo(), known - k);
                due.so("as behind " + (days - k) + " days", Edges.handsOf(x).equals(Edges.handsOf(behind(days - k))));
            }
            due.is("no more of " + days, x.undo(), NONE);
            due.is("day", x.count(1), days - known);
        }
    }

    private static void howManyMore() {
        CaughtHand x = behind(8);
        for (int k = 7; k >= 0; k--) {
            due.is("undo", x.undo(), k);
            due.is("count", x.count(5), k);
        }
        CaughtHand y = behind(12);
        y.undo();
        y.undo();
        y.days(1);
        due.is("six and a new one", y.count(5), 7);
        y.days(3);
        due.is("eight again", y.count(5), 8);
        for (int k = 7; k >= 0; k--) {
            due.is("undo", y.undo(), k);
        }
        due.is("no more", y.undo(), NONE);
        due.is("day", y.count(1), 6);
    }

    private static void asAheadOfIt() {
        for (int days = 1; days <= 14; days++) {
            CaughtHand x = behind(days);
            x.undo();
            due.so("day " + days, Edges.handsOf(x).equals(Edges.handsOf(behind(days - 1))));
            due.is("wet", x.count(2), behind(days - 1).count(2));
            x.days(1);
            due.so("again", Edges.handsOf(x).equals(Edges.handsOf(behind(days))));
        }
    }

    private static void whateverWasDoneSince() {
        Edges.Call[] calls = {x -> x.sit(0, 7), x -> x.sit(0, 1), x -> x.dry(1, 1), x -> x.weather(0), x -> x.lasting(30), x -> x.seed(5),
            x -> x.image(), x -> x.sheet(0, 0, 9), x -> x.type('p'), x -> x.office(), x -> x.person(0, 0, 8, 7), x -> x.film(0, 24, 0, 2, 0)};
        for (int k = 0; k < calls.length; k++) {
            CaughtHand x = behind(5);
            calls[k].on(x);
            due.is("undo behind call " + k, x.undo(), 4);
            due.so("as it was, behind call " + k, Edges.handsOf(x).equals(Edges.handsOf(behind(4))));
        }
        CaughtHand y = behind(5);
        y.sit(0, 6);
        y.dry(3, 1);
        y.weather(7);
        y.lasting(30);
        y.undo();
        due.is("its chair stays", y.of(0, 3), 6);
        due.is("dry chairs stay", y.count(3), 8);
        due.is("weather stays", y.weather(7), 7);
        due.is("lasting stays", y.count(4), 30);
    }

    private static void drawStays() {
        CaughtHand x = new CaughtHand();
        x.seed(2147483647);
        x.drift(1);
        x.undo();
        due.is("draw", x.seed(1), 1043980748);
        x.drift(1);
        x.seed(3);
        x.undo();
        due.is("draw", x.seed(1), 3);
    }

    private static void nothingLeft() {
        CaughtHand x = behind(3);
        due.is("a fault", x.office(), -20);
        due.is("leaves all", x.count(5), 3);
        due.is("a refused person", x.person(0, 0, 0, 0), -2);
        due.is("leaves all", x.count(5), 3);
        due.is("a person", x.person(0, 0, 0, 7), 3);
        due.is("leaves none", x.undo(), NONE);
        due.is("day", x.count(1), 3);
        x.days(1);
        due.is("an office", Due.officeOf(x, "p0000000@0"), 1);
        due.is("leaves none", x.undo(), NONE);
        due.is("day", x.count(1), 0);
    }

    // ---- promise 16

    private static void seeds() {
        due.part("16: BAD: below 0 (a number of 31 bits)"); edges.within("seed", 0, GREATEST, (x, v) -> x.seed(v));
        due.part("16: THE DRAW becomes v: what it was"); drawBefore();
    }

    private static void drawBefore() {
        CaughtHand x = new CaughtHand();
        due.is("seed", x.seed(GREATEST), 1);
        due.is("seed", x.seed(-1), BAD);
        due.is("seed", x.seed(0), GREATEST);
        due.is("seed", x.seed(1), 0);
        x.drift(1);
        due.is("seed", x.seed(1), 1103527590);
    }
}
