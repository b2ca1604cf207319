/** Promises 17 to 25, what is foretold of days to come: a test for each sentence that names an edge. */
public final class EdgeForetoldTest {
    private static final int BAD = -1, NONE = -4;
    private static final int LAST_DAY = 9999;
    /** Strokes come down from the last chair by one chair on each wet day; the first one is there behind 61 days. */
    private static final String FAR = "p1000000@0,s2000000@1,s3000000@2,t4100000@3;r";
    private static final Due due = new Due();
    private static final Edges edges = new Edges(due);

    public static void main(String[] args) {
        all().end();
    }

    static Due all() {
        writing();
        cheques();
        outs();
        seats();
        papers();
        likelihoods();
        mosts();
        dryOuts();
        forgers();
        return due;
    }

    private static CaughtHand far() {
        CaughtHand x = edges.with(FAR);
        x.lasting(30);
        return x;
    }

    private static CaughtHand mixed() {
        CaughtHand x = edges.with("p0012345@0,s7111111@1,l5222222@2,t9333333@4,p8012340@5;r.rrr..rr.");
        x.lasting(5);
        return x;
    }

    // ---- promise 17

    private static void writing() {
        due.part("17: of a PERSON"); edges.aPerson("person", (x, v) -> x.writes(v, 60));
        due.part("17: n DAYS on, 0 .. 60"); edges.within("n", 0, 60, (x, v) -> x.writes(0, v));
        due.part("17: nothing is changed"); nothingIsChangedByWriting();
        due.part("17: how one WRITES behind n DAYS"); behindEach();
        due.part("17: WEATHER as told, left over by 30"); weatherAsTold();
        due.part("17: foretold beyond the last DAY"); beyondTheLastDay();
    }

    private static void nothingIsChangedByWriting() {
        for (int n : new int[] {0, 1, 59, 60}) {
            for (int person = 0; person < 3; person++) {
                int p = person;
                edges.foretells("writes " + p + " " + n, x -> x.writes(p, n));
            }
        }
    }

    private static void behindEach() {
        CaughtHand last = far();
        last.days(1);
        due.is("behind 59 days", last.writes(0, 59), 0);
        due.is("behind 60 days", last.writes(0, 60), 100000);
        for (int n = 0; n <= 60; n++) {
            CaughtHand then = mixed();
            if (n > 0) {
                then.days(n);
            }
            CaughtHand x = mixed();
            for (int person = 0; person < 5; person++) {
                due.is("writes " + person + " " + n, x.writes(person, n), then.of(person, 4));
            }
        }
    }

    private static void weatherAsTold() {
        for (int bit : new int[] {0, 1, 28, 29}) {
            CaughtHand x = edges.with("p0000000@0,t9123456@1");
            x.weather(1 << bit);
            x.lasting(30);
            due.is("on day " + bit, x.writes(0, bit), 0);
            due.is("behind day " + bit, x.writes(0, bit + 1), 100000);
            due.is("thirty days on", x.writes(0, bit + 30), 100000);
            due.is("behind that", x.writes(0, Math.min(60, bit + 31)), 120000);
            x.days(1);
            due.is("a day later", x.writes(0, bit + 29), 100000);
            due.is("behind that", x.writes(0, bit + 30), 120000);
        }
        CaughtHand brief = edges.with("p0000000@0,p9123456@1;r");
        brief.lasting(30);
        due.is("till day 30", brief.writes(0, 30), 100000);
        due.is("taken anew", brief.writes(0, 31), 100000);
        brief.lasting(29);
        due.is("till day 29", brief.writes(0, 29), 100000);
        due.is("its own on day 30", brief.writes(0, 30), 0);
    }

    private static void beyondTheLastDay() {
        CaughtHand x = new CaughtHand();
        for (int k = 0; k < LAST_DAY / 60; k++) {
            x.days(60);
        }
        x.days(LAST_DAY % 60);
        x.person(0, 0, 0, 0);
        x.person(3, 9, 123456, 1);
        x.weather(1 << (LAST_DAY + 1) % 30);
        due.is("the last day", x.count(1), LAST_DAY);
        due.is("no more days", x.days(1), -3);
        due.is("on it", x.writes(0, 1), 0);
        due.is("behind the next", x.writes(0, 2), 100000);
        due.is("behind the second wet one", x.writes(0, 32), 120000);
        due.is("till day 10035", x.writes(0, 36), 120000);
        due.is("60 days on", x.writes(0, 60), 20000);
        due.is("cheque", x.cheque(0), 2);
    }

    // ---- promise 18

    private static void cheques() {
        due.part("18: of a PERSON"); edges.aPerson("person", (x, v) -> x.cheque(v));
        due.part("18: nothing is changed"); edges.foretells("cheque 0", x -> x.cheque(0)); edges.foretells("cheque 2", x -> x.cheque(2));
        due.part("18: the first k (0 .. 60)"); firstCheque();
        due.part("18: NONE: it does, behind all of them"); noCheque();
        due.part("18: does not WRITE all its own"); notAllItsOwn();
    }

    private static void firstCheque() {
        for (int bit = 0; bit < 30; bit++) {
            CaughtHand x = edges.with("p0000000@0,p9000001@1");
            x.weather(1 << bit);
            due.is("wet on day " + bit, x.cheque(0), bit + 1);
        }
        CaughtHand now = edges.with("p0000000@0,p9000001@1;r");
        now.days(1);
        due.is("now", now.cheque(0), 0);
        CaughtHand last = far();
        last.days(1);
        due.is("behind 60 days", last.cheque(0), 60);
        last.days(1);
        due.is("behind 59 days", last.cheque(0), 59);
    }

    private static void noCheque() {
        CaughtHand x = far();
        due.is("behind 61 days", x.cheque(0), NONE);
        due.is("behind 31 days", x.cheque(1), 31);
        due.is("never", x.cheque(3), NONE);
        due.is("alone", edges.with("p0123456@5;" + Edges.WET).cheque(0), NONE);
    }

    private static void notAllItsOwn() {
        CaughtHand like = edges.with("p0111111@0,p9111111@1;" + Edges.WET);
        due.is("of one alike", like.cheque(0), NONE);
        CaughtHand taken = edges.with("p0100000@0,p1200000@1,t9100000@2;rr");
        taken.days(2);
        taken.weather(0);
        due.is("a stroke like its own is taken", taken.of(0, 5), 1);
        due.is("but it is like its own", taken.cheque(0), NONE);
        CaughtHand once = edges.with("p0000000@0,p9000001@1;.....r");
        once.lasting(1);
        due.is("for a day only", once.cheque(0), 6);
    }

    // ---- promise 19

    private static void outs() {
        due.part("19: of a PERSON"); edges.aPerson("person", (x, v) -> x.out(v, 1, 60));
        due.part("19: q (1 .. 6)"); edges.within("q", 1, 6, (x, v) -> x.out(0, v, 0));
        due.part("19: n DAYS on, 0 .. 60"); edges.within("n", 0, 60, (x, v) -> x.out(0, 6, v));
        due.part("19: nothing is changed"); edges.foretells("out 0 6 60", x -> x.out(0, 6, 60)); edges.foretells("out 2 3 0", x -> x.out(2, 3, 0));
        due.part("19: q STROKES of a PERSON's own or more"); manyOrMore();
        due.part("19: nobody (itself, too)"); nobodyToo();
        due.part("19: each at its place"); outAtItsPlace();
        due.part("19: behind n DAYS"); outBehindDays();
    }

    private static void manyOrMore() {
        // a stroke goes each day; the other one has the 1 at place 1
        for (int n = 0; n <= 5; n++) {
            CaughtHand x = edges.with("p0012345@0,t9111111@1;rrrrrr");
            int alike = Math.max(1, 6 - n);
            for (int q = 1; q <= 6; q++) {
                due.is("out 0 " + q + " " + n, x.out(0, q, n), q > alike ? 1 : 0);
            }
        }
        CaughtHand none = edges.with("p0000000@0,t9111111@1;rrrrrr");
        due.is("one left", none.out(0, 1, 5), 0);
        due.is("none left", none.out(0, 1, 6), 1);
    }

    private static void nobodyToo() {
        due.is("itself alone", edges.with("p0765432@0").out(0, 6, 60), 0);
        CaughtHand other = edges.with("p0000000@0,t9111111@1,p0000007@7;rrrrrr");
        due.is("five by another one", other.out(0, 5, 6), 0);
        due.is("not six", other.out(0, 6, 6), 1);
        CaughtHand taken = edges.with("p0000000@0,t9111111@1;rrrrrr");
        due.is("by one that took it", taken.out(1, 6, 6), 0);
        taken.days(6);
        due.is("itself", taken.out(1, 6, 0), 0);
        due.is("nobody", taken.out(0, 1, 0), 1);
    }

    private static void outAtItsPlace() {
        CaughtHand x = edges.with("p0123456@0,t9777777@1,p0612345@7;rrrrrr");
        due.is("the same strokes at other places", x.out(0, 1, 6), 1);
        due.is("of the other", x.out(2, 6, 6), 0);
    }

    private static void outBehindDays() {
        CaughtHand x = edges.with("p0000000@0,t9111111@1;r");
        x.lasting(1);
        due.is("now", x.out(0, 6, 0), 0);
        due.is("behind one", x.out(0, 6, 1), 1);
        due.is("nine days on", x.out(0, 6, 9), 1);
        due.is("its own again", x.out(0, 6, 10), 0);
        due.is("29 days on", x.out(0, 6, 30), 0);
        due.is("the next wet one", x.out(0, 6, 31), 1);
        due.is("60 days on", x.out(0, 6, 60), 0);
    }

    // ---- promise 20

    private static void seats() {
        due.part("20: of a PERSON"); edges.aPerson("person", (x, v) -> x.seats(v, 0, 0, 1, 0));
        due.part("20: a told STROKE (0 .. 7)"); edges.within("stroke", 0, 7, (x, v) -> x.seats(0, 0, v, 1, 0));
        due.part("20: at a told place (0 .. 5)"); edges.within("place", 0, 5, (x, v) -> x.seats(0, v, 0, 1, 0));
        due.part("20: n DAYS on, 0 .. 60"); edges.within("n", 0, 60, (x, v) -> x.seats(0, 0, 0, v, 0));
        due.part("20: what = 0, 1, 2"); edges.within("what", 0, 2, (x, v) -> x.seats(0, 0, 0, 1, v));
        due.part("20: nothing is changed"); nothingIsChangedBySeats();
        due.part("20: exchanges (0 .. 2): none needed"); noneNeeded();
        due.part("20: one exchange; the first such, lesser ones first"); oneNeeded();
        due.part("20: two exchanges; the first such, of each, lesser ones first"); twoNeeded();
        due.part("20: NONE: none will do (three would)"); threeNeeded();
        due.part("20: of whoever sits there, also nobody"); alsoNobody();
        due.part("20: made now, by which it WRITES so behind n DAYS"); madeNow();
        due.part("20: every exchange, and every two, tried in their order"); everyExchange();
        due.part("20: BAD ahead of all others"); badAheadOfNoSeats();
    }

    private static void nothingIsChangedBySeats() {
        for (int what = 0; what <= 2; what++) {
            int w = what;
            edges.foretells("none will do " + w, x -> x.seats(1, 0, 0, 60, w));
            edges.foretells("some will do " + w, x -> x.seats(2, 0, 6, 2, w));
            edges.foretells("none needed " + w, x -> x.seats(0, 0, 1, 0, w));
        }
    }

    private static void seatsAre(CaughtHand x, String why, int[] asked, int... want) {
        for (int what = 0; what <= 2; what++) {
            due.is(why + " " + what, x.seats(asked[0], asked[1], asked[2], asked[3], what), want[what]);
        }
    }

    private static void noneNeeded() {
        CaughtHand x = edges.with("p0000000@0,p9123456@1;rrrrrr");
        seatsAre(x, "its own now", new int[] {0, 0, 0, 0}, 0, NONE, NONE);
        seatsAre(x, "taken at place 0", new int[] {0, 0, 1, 1}, 0, NONE, NONE);
        seatsAre(x, "not yet at place 5", new int[] {0, 5, 0, 5}, 0, NONE, NONE);
        seatsAre(x, "taken at place 5", new int[] {0, 5, 6, 6}, 0, NONE, NONE);
        seatsAre(x, "as strong as there is", new int[] {1, 5, 6, 60}, 0, NONE, NONE);
    }

    private static void oneNeeded() {
        seatsAre(edges.with("p0000000@0,p9700000@2;r"), "the first of all", new int[] {0, 0, 7, 1}, 1, 1, NONE);
        seatsAre(edges.with("p0000000@7,p9700000@5;r", 255 - 96), "the last of all", new int[] {0, 0, 7, 1}, 1, 55, NONE);
        seatsAre(edges.with("p0000000@3,p9700000@7;r"), "person or model", new int[] {0, 0, 7, 1}, 1, 8 * 2 + 7, NONE);
        seatsAre(edges.with("p0000000@3,p9700000@7;r", 4), "not to a dry one", new int[] {0, 0, 7, 1}, 1, 8 * 3 + 6, NONE);
        seatsAre(edges.with("p0000000@0,p9700000@1"), "own kept by leaving", new int[] {0, 0, 0, 1}, 0, NONE, NONE);
        seatsAre(edges.with("p0000000@0,p9700000@1;r"), "own kept by leaving", new int[] {0, 0, 0, 1}, 1, 3, NONE);
    }

    private static void twoNeeded() {
        seatsAre(edges.with("p0000000@0,p5100000@7;r", 65), "two", new int[] {0, 0, 1, 1}, 2, 1, 23);
        seatsAre(edges.with("p0000000@7,p5700000@4;r", 255 - 96), "the last second", new int[] {0, 0, 7, 1}, 2, 8 * 4 + 5, 55);
        seatsAre(edges.with("p0333333@0,l5222222@1,p9000000@5;rr", 255 - 56), "a row of three", new int[] {0, 0, 7, 2}, 2, 3, 12);
        String[] texts = {"s1111111@2,p2222222@1,s1333333@4,s7444444@7;r", "s3111111@6,p9222222@5,l6333333@4,s5444444@7;r",
            "s4111111@7,s3222222@2,l9333333@6,l0444444@0;r", "s1111111@1,s2222222@0,p7333333@2,l0444444@3;r"};
        int[][] want = {{231, 2, 11, 20}, {76, 4, 6, 15}, {231, 3, 30, 39}, {38, 3, 11, 20}};
        for (int k = 0; k < texts.length; k++) {
            seatsAre(edges.with(texts[k], want[k][0]), "a chair in both", new int[] {0, 0, want[k][1], 1}, 2, want[k][2], want[k][3]);
        }
    }

    private static void threeNeeded() {
        int chairs = 255 - 56;
        int[] asked = {0, 0, 7, 2};
        seatsAre(edges.with("p0333333@3,l5222222@4,p9000000@5;rr", chairs), "all on their chairs", asked, 0, NONE, NONE);
        seatsAre(edges.with("p0333333@3,l5222222@1,p9000000@5;rr", chairs), "one away", asked, 1, 12, NONE);
        seatsAre(edges.with("p0333333@0,l5222222@1,p9000000@5;rr", chairs), "two away", asked, 2, 3, 12);
        seatsAre(edges.with("p0333333@0,l5222222@1,p9000000@7;rr", chairs), "three away", asked, NONE, NONE, NONE);
        seatsAre(edges.with("p0000000@0,p9123456@1;rrrrrr"), "no such stroke", new int[] {0, 5, 7, 60}, NONE, NONE, NONE);
    }

    private static void alsoNobody() {
        seatsAre(edges.with("p0000000@0,p9700000@5;r", 255 - 48), "to a free chair", new int[] {0, 0, 7, 1}, 1, 4, NONE);
        seatsAre(edges.with("p0000000@0,p9700000@5,p0000000@4;r", 255 - 48), "to somebody's", new int[] {0, 0, 7, 1}, 1, 4, NONE);
        CaughtHand x = edges.with("p0000000@0,p9700000@1,p5100000@4;r", 255 - 3);
        seatsAre(x, "two others", new int[] {0, 0, 1, 1}, 1, 12, NONE);
    }

    private static void madeNow() {
        CaughtHand x = edges.with("p0000000@0,p9700000@2;..r");
        seatsAre(x, "not now", new int[] {0, 0, 7, 0}, NONE, NONE, NONE);
        seatsAre(x, "not behind two", new int[] {0, 0, 7, 2}, NONE, NONE, NONE);
        seatsAre(x, "behind three", new int[] {0, 0, 7, 3}, 1, 1, NONE);
        seatsAre(x, "till day 16", new int[] {0, 0, 7, 16}, 1, 1, NONE);
        seatsAre(x, "behind that", new int[] {0, 0, 7, 17}, NONE, NONE, NONE);
        seatsAre(x, "the next wet one", new int[] {0, 0, 7, 33}, 1, 1, NONE);
        x.lasting(30);
        seatsAre(x, "sixty on", new int[] {0, 0, 7, 60}, 1, 1, NONE);
        seatsAre(edges.with("p0000000@0,p9700000@2;r"), "no day goes by", new int[] {0, 0, 7, 0}, NONE, NONE, NONE);
        CaughtHand over = edges.with("p0000000@0,p9700000@1;r");
        over.days(1);
        seatsAre(over, "taken already", new int[] {0, 0, 0, 13}, NONE, NONE, NONE);
        seatsAre(over, "is its own again", new int[] {0, 0, 0, 14}, 0, NONE, NONE);
    }

    private static void everyExchange() {
        everyExchangeOf("p0012345@0,s7111111@1,l5222222@2,t9333333@4,p8012340@5;r.rrr..rr.", 0, 0, 5);
        everyExchangeOf("p0012345@0,s7111111@1,l5222222@2,t9333333@4,p8012340@5;r.rrr..rr.", 0, 2, 2);
        everyExchangeOf("p0000000@0,p1111111@1,p2222222@2,p3333333@3,p4444444@4,p5555555@5,p6666666@6;r", 0, 0, 1);
        everyExchangeOf("p0000000@0,p6111111@1,p5222222@2,p4333333@3,p3444444@4,p2555555@5,p1666666@6;rrr", 0, 0, 3);
        everyExchangeOf("p6111111@1,p5222222@2,l4333333@3,l3444444@4,p2555555@5,p1666666@6,p0000000@0;rrr", 64, 6, 3);
        everyExchangeOf("l2000000@7,t9123456@0,s3654321@3,l5111111@4,s5777777@5;rr", 255 - 112, 2, 2);
    }

    /** Seats for each stroke at each place, by what is written behind every exchange made by hand, in their order. */
    private static void everyExchangeOf(String text, int dryChairs, int person, int n) {
        int[][] first = new int[48][];
        note(first, edges.with(text, dryChairs).writes(person, n), 0, NONE, NONE);
        for (int one = 0; one < 64; one++) {
            note(first, writtenBehind(text, dryChairs, person, n, one, 0), 1, one, NONE);
        }
        for (int both = 0; both < 64 * 64; both++) {
            if (both >> 6 != 0 && (both & 63) != 0) {
                note(first, writtenBehind(text, dryChairs, person, n, both >> 6, both & 63), 2, both >> 6, both & 63);
            }
        }
        CaughtHand x = edges.with(text, dryChairs);
        for (int asked = 0; asked < 48; asked++) {
            int[] want = first[asked] == null ? new int[] {NONE, NONE, NONE} : first[asked];
            seatsAre(x, "stroke " + asked % 8 + " at " + asked / 8, new int[] {person, asked / 8, asked % 8, n}, want);
        }
    }

    private static void note(int[][] first, int written, int many, int one, int other) {
        if (written < 0) {
            return;
        }
        int power = 100000;
        for (int place = 0; place < 6; place++) {
            int asked = 8 * place + written / power % 10;
            if (first[asked] == null) {
                first[asked] = new int[] {many, one, other};
            }
            power /= 10;
        }
    }

    /** What is written behind exchanges made by sitting down, or BAD if one is told otherwise than with the lesser chair first. */
    private static int writtenBehind(String text, int dryChairs, int person, int n, int one, int other) {
        if (one >> 3 >= (one & 7) || other != 0 && other >> 3 >= (other & 7)) {
            return BAD;
        }
        CaughtHand x = edges.with(text, dryChairs);
        exchange(x, one >> 3, one & 7);
        if (other != 0) {
            exchange(x, other >> 3, other & 7);
        }
        return x.writes(person, n);
    }

    private static void exchange(CaughtHand x, int chair, int other) {
        if (x.at(chair) >= 0) {
            x.sit(x.at(chair), other);
        } else if (x.at(other) >= 0) {
            x.sit(x.at(other), chair);
        }
    }

    private static void badAheadOfNoSeats() {
        CaughtHand x = edges.with("p0000000@0");
        due.is("none", x.seats(0, 0, 7, 60, 0), NONE);
        due.is("no such what", x.seats(0, 0, 7, 60, 3), BAD);
        due.is("no such n", x.seats(0, 0, 7, 61, 0), BAD);
        due.is("no such stroke", x.seats(0, 0, 8, 60, 0), BAD);
        due.is("no such place", x.seats(0, 6, 7, 60, 0), BAD);
        due.is("no such person", x.seats(1, 0, 7, 60, 0), BAD);
    }

    // ---- promise 21

    private static void papers() {
        due.part("21: a told paper (six figures)"); edges.sixFigures("paper", (x, v) -> x.who(v, 0));
        due.part("21: n DAYS on, 0 .. 60"); edges.within("n", 0, 60, (x, v) -> x.who(0, v));
        due.part("21: nothing is changed"); edges.foretells("who 123000 0", x -> x.who(123000, 0)); edges.foretells("who 77 60", x -> x.who(77, 60));
        due.part("21: PEOPLE that WRITE just a told paper (a set)"); setsOfWriters();
        due.part("21: behind n DAYS"); writersBehindDays();
    }

    private static void setsOfWriters() {
        CaughtHand x = edges.with(Edges.SEVEN);
        for (int person = 0; person < 7; person++) {
            due.is("one", x.who(111111 * person, 60), 1 << person);
        }
        due.is("none", x.who(777777, 60), 0);
        due.is("none", x.who(100000, 60), 0);
        due.is("none", x.who(1, 60), 0);
        due.is("of none", new CaughtHand().who(0, 0), 0);
        CaughtHand all = edges.with(Edges.SEVEN.replaceAll("[0-6]{7}@", "0765432@"));
        due.is("all", all.who(765432, 60), 127);
        due.is("all but the last stroke", all.who(765431, 60), 0);
        due.is("all but the first stroke", all.who(665432, 60), 0);
    }

    private static void writersBehindDays() {
        CaughtHand x = edges.with("p0012345@0,t9112345@1,p0112345@5;r");
        x.lasting(1);
        int[] n = {0, 1, 9, 10, 30, 31, 39, 40, 60};
        int[] want = {6, 7, 7, 6, 6, 7, 7, 6, 6};
        for (int k = 0; k < n.length; k++) {
            due.is("behind " + n[k], x.who(112345, n[k]), want[k]);
            due.is("the rest behind " + n[k], x.who(12345, n[k]), 7 - want[k]);
        }
    }

    // ---- promise 22

    private static void likelihoods() {
        due.part("22: of one"); edges.aPerson("person", (x, v) -> x.likely(v, 0, 8, 0));
        due.part("22: a told paper (six figures)"); edges.sixFigures("paper", (x, v) -> x.likely(0, v, 2, 1));
        due.part("22: the next n (0 .. 8) DAYS"); edges.within("n", 0, 8, (x, v) -> x.likely(0, 0, v, 0));
        due.part("22: upper (0), lower number (1)"); edges.within("what", 0, 1, (x, v) -> x.likely(0, 123400, 8, v));
        due.part("22: nothing is changed"); nothingIsChangedByLikely();
        due.part("22: 0 is 0 of 1"); likelyNever();
        due.part("22: 1 is 1 of 1"); likelyAlways();
        due.part("22: in lowest terms"); lowestTerms();
        due.part("22: behind the next n DAYS"); likelyBehindDays();
        due.part("22: each as likely WET as not, whatever WEATHER says"); whateverWeatherSays();
    }

    private static void nothingIsChangedByLikely() {
        for (int n = 0; n <= 8; n += 4) {
            int days = n;
            edges.foretells("upper " + n, x -> x.likely(0, 123400, days, 0));
            edges.foretells("lower " + n, x -> x.likely(0, 123400, days, 1));
        }
    }

    private static void likelyIs(CaughtHand x, int person, int paper, int n, int upper, int lower) {
        due.is("upper of " + paper + " in " + n, x.likely(person, paper, n, 0), upper);
        due.is("lower of " + paper + " in " + n, x.likely(person, paper, n, 1), lower);
    }

    private static void likelyNever() {
        CaughtHand x = edges.with("p0000000@0,s9123456@1");
        for (int n = 0; n <= 8; n++) {
            likelyIs(x, 0, 777777, n, 0, 1);
            likelyIs(x, 1, 0, n, 0, 1);
        }
        likelyIs(x, 0, 100000, 0, 0, 1);
        likelyIs(x, 0, 123450, 4, 0, 1);
        likelyIs(x, 0, 123456, 5, 0, 1);
    }

    private static void likelyAlways() {
        CaughtHand x = edges.with("p0000000@0,s9123456@1");
        for (int n = 0; n <= 8; n++) {
            likelyIs(x, 1, 123456, n, 1, 1);
        }
        likelyIs(x, 0, 0, 0, 1, 1);
    }

    private static void lowestTerms() {
        CaughtHand x = edges.with("p0000000@0,s9123456@1");
        likelyIs(x, 0, 0, 1, 1, 2);
        likelyIs(x, 0, 100000, 1, 1, 2);
        likelyIs(x, 0, 100000, 2, 1, 2);
        likelyIs(x, 0, 120000, 2, 1, 4);
        likelyIs(x, 0, 100000, 3, 3, 8);
        likelyIs(x, 0, 120000, 4, 3, 8);
        likelyIs(x, 0, 0, 8, 1, 256);
        likelyIs(x, 0, 100000, 8, 1, 32);
        likelyIs(x, 0, 120000, 8, 7, 64);
        likelyIs(x, 0, 123000, 8, 7, 32);
        likelyIs(x, 0, 123400, 8, 35, 128);
        likelyIs(x, 0, 123450, 8, 7, 32);
        likelyIs(x, 0, 123456, 8, 28 + 8 + 1, 256);
        CaughtHand one = edges.with("p0000000@0,s9000001@1");
        likelyIs(one, 0, 1, 8, 255, 256);
        // all eight days wet: strokes come down a row of four, one chair a day, then six more
        CaughtHand row = edges.with("p0000000@0,p1000000@1,p2000000@2,t9123456@3");
        row.lasting(30);
        likelyIs(row, 0, 123456, 8, 1, 256);
        likelyIs(row, 0, 123450, 8, 1, 32);
    }

    private static void likelyBehindDays() {
        // taken already, till day 8; nothing more can be taken
        CaughtHand x = edges.with("p0000000@0,p9100000@1;r");
        x.lasting(8);
        x.days(1);
        x.sit(0, 7);
        for (int n = 0; n <= 8; n++) {
            likelyIs(x, 0, 100000, n, n <= 7 ? 1 : 0, 1);
            likelyIs(x, 0, 0, n, n <= 7 ? 0 : 1, 1);
        }
        x.sit(0, 0);
        likelyIs(x, 0, 100000, 7, 1, 1);
        likelyIs(x, 0, 100000, 8, 1, 2);
        x.days(7);
        likelyIs(x, 0, 100000, 0, 1, 1);
        likelyIs(x, 0, 100000, 1, 1, 2);
        x.days(1);
        likelyIs(x, 0, 100000, 0, 0, 1);
        likelyIs(x, 0, 100000, 1, 1, 2);
        likelyIs(x, 0, 100000, 2, 3, 4);
    }

    private static void whateverWeatherSays() {
        for (int weather : new int[] {0, 1, 1073741823}) {
            CaughtHand x = edges.with("p0000000@0,s9000001@1");
            x.weather(weather);
            likelyIs(x, 0, 1, 2, 3, 4);
            x.days(29);
            x.undo();
        }
        CaughtHand brief = edges.with("p0000000@0,p9000001@1");
        brief.lasting(1);
        likelyIs(brief, 0, 1, 8, 1, 2);
        // given back on the second day, and taken again only if that is wet
        brief.lasting(2);
        likelyIs(brief, 0, 1, 1, 1, 2);
        likelyIs(brief, 0, 1, 2, 3, 4);
        likelyIs(brief, 0, 1, 3, 5, 8);
        likelyIs(brief, 0, 1, 8, 171, 256);
    }

    // ---- promise 23

    private static void mosts() {
        due.part("23: at a place (0 .. 5)"); edges.within("place", 0, 5, (x, v) -> x.most(v, 0, 0));
        due.part("23: n DAYS on, 0 .. 60"); edges.within("n", 0, 60, (x, v) -> x.most(0, v, 0));
        due.part("23: the PERSON (0), by how many (1)"); edges.within("what", 0, 1, (x, v) -> x.most(0, 0, v));
        due.part("23: nothing is changed"); edges.foretells("most 0 60 0", x -> x.most(0, 60, 0)); edges.foretells("most 5 0 1", x -> x.most(5, 0, 1));
        due.part("23: NONE: no PEOPLE"); mostOfNobody();
        due.part("23: by most (its own counts)"); byMost();
        due.part("23: of like ones the least"); mostOfLikeOnes();
        due.part("23: behind n DAYS"); mostBehindDays();
    }

    private static void mostIs(CaughtHand x, int place, int n, int person, int many) {
        due.is("most at " + place + " behind " + n, x.most(place, n, 0), person);
        due.is("how many at " + place + " behind " + n, x.most(place, n, 1), many);
    }

    private static void mostOfNobody() {
        CaughtHand none = new CaughtHand();
        mostIs(none, 0, 0, NONE, NONE);
        mostIs(none, 5, 60, NONE, NONE);
        due.is("bad ahead of it", none.most(6, 0, 0), BAD);
        due.is("bad ahead of it", none.most(-1, 0, 0), BAD);
        due.is("bad ahead of it", none.most(0, 61, 0), BAD);
        due.is("bad ahead of it", none.most(0, 0, 2), BAD);
    }

    private static void byMost() {
        mostIs(edges.with("l3765432@4"), 0, 60, 0, 1);
        CaughtHand all = edges.with(Edges.SEVEN.replaceAll("[0-6]{7}@", "0765432@"));
        for (int place = 0; place < 6; place++) {
            mostIs(all, place, 60, 0, 7);
        }
        CaughtHand six = edges.with(Edges.SEVEN.replaceAll("[1-6]{7}@", "0765432@"));
        mostIs(six, 3, 60, 1, 6);
        CaughtHand last = edges.with("p0000001@0,p0000002@2,p0000003@4,p0000003@6");
        mostIs(last, 5, 0, 2, 2);
        mostIs(last, 4, 0, 0, 4);
        // the first one writes the other's stroke: of its own there is none but its own then
        CaughtHand gone = edges.with("p0000000@0,p9100000@1;r");
        mostIs(gone, 0, 1, 1, 2);
    }

    private static void mostOfLikeOnes() {
        CaughtHand x = edges.with(Edges.SEVEN);
        for (int place = 0; place < 6; place++) {
            mostIs(x, place, 0, 0, 1);
        }
        CaughtHand pairs = edges.with("p0100000@0,p0200000@2,p0300000@4,p0300000@6,p0200000@7");
        mostIs(pairs, 0, 0, 1, 2);
    }

    private static void mostBehindDays() {
        CaughtHand x = edges.with("p0000000@0,t9100000@1,p0000000@4;r");
        x.lasting(1);
        mostIs(x, 0, 0, 0, 2);
        mostIs(x, 0, 1, 1, 2);
        mostIs(x, 0, 9, 1, 2);
        mostIs(x, 0, 10, 0, 2);
        mostIs(x, 0, 31, 1, 2);
        mostIs(x, 0, 60, 0, 2);
    }

    // ---- promise 24

    private static void dryOuts() {
        due.part("24: of a PERSON"); edges.aPerson("person", (x, v) -> x.dryOut(v, 60));
        due.part("24: n DAYS on, 0 .. 60"); edges.within("n", 0, 60, (x, v) -> x.dryOut(2, v));
        due.part("24: nothing is changed"); edges.foretells("dryOut 0 60", x -> x.dryOut(0, 60)); edges.foretells("dryOut 2 60", x -> x.dryOut(2, 60));
        due.part("24: the fewest CHAIRS: none needed"); noChairNeeded();
        due.part("24: CHAIRS more, of like ones the least set"); leastChair();
        due.part("24: behind each of 0 to n DAYS"); behindEachDay();
        due.part("24: NONE"); noChairsWillDo();
    }

    private static void noChairNeeded() {
        due.is("alone", edges.with("p0123456@0;" + Edges.WET).dryOut(0, 60), 0);
        due.is("now", edges.with("p0123456@0,p9777777@1;" + Edges.WET).dryOut(0, 0), 0);
        due.is("the strongest", edges.with("p0123456@0,p9777777@1;" + Edges.WET).dryOut(1, 60), 0);
        due.is("no wet day", edges.with("p0123456@0,p9777777@1").dryOut(0, 60), 0);
        due.is("one alike", edges.with("p0123456@0,p9123456@1;" + Edges.WET).dryOut(0, 60), 0);
        due.is("dry already", edges.with("p0123456@0,p9777777@1;" + Edges.WET, 2).dryOut(0, 60), 0);
    }

    private static void leastChair() {
        for (int chair = 0; chair < 7; chair++) {
            CaughtHand x = edges.with("p0123456@" + chair + ",p9777777@" + (chair + 1) + ";r");
            due.is("its own", x.dryOut(0, 1), 1 << chair);
            CaughtHand y = edges.with("p9777777@" + chair + ",p0123456@" + (chair + 1) + ";r");
            due.is("the other's", y.dryOut(1, 1), 1 << chair);
        }
        due.is("between two", edges.with("p0123456@4,p9777777@3,p9666666@5;r").dryOut(0, 1), 16);
        due.is("the last of all", edges.with("p0123456@7,p9777777@6;r", 0).dryOut(0, 1), 64);
        due.is("its own, the last of all", edges.with("p0123456@7,p1777777@6,p9777777@5;r", 0).dryOut(0, 1), 64);
        due.is("others are dry already", edges.with("p0123456@4,p9777777@5,p9666666@3;r", 8 + 1).dryOut(0, 1), 16);
        CaughtHand row = edges.with("p1100000@2,p2100000@1,p3200000@0;rr");
        due.is("a row, one day", row.dryOut(0, 1), 0);
        due.is("a row, two days", row.dryOut(0, 2), 1);
        CaughtHand other = edges.with("p1100000@5,p2100000@6,p3200000@7;rr");
        due.is("a row the other way", other.dryOut(0, 2), 32);
    }

    private static void behindEachDay() {
        CaughtHand brief = edges.with("p0000000@0,p9100000@1;r");
        brief.lasting(1);
        due.is("behind none", brief.dryOut(0, 0), 0);
        due.is("behind one", brief.dryOut(0, 1), 1);
        due.is("its own again behind two", brief.dryOut(0, 2), 1);
        brief.weather(1 << 29);
        due.is("behind 29", brief.dryOut(0, 29), 0);
        due.is("behind 30", brief.dryOut(0, 30), 1);
        CaughtHand last = far();
        due.is("only behind 61", last.dryOut(0, 60), 0);
        last.days(1);
        due.is("behind 60", last.dryOut(0, 60), 1);
        due.is("behind 59", last.dryOut(0, 59), 0);
    }

    private static void noChairsWillDo() {
        CaughtHand x = edges.with("p0000000@0,p9100000@1;r");
        x.days(1);
        for (int n : new int[] {0, 1, 13, 14, 60}) {
            due.is("taken already, " + n, x.dryOut(0, n), NONE);
        }
        x.weather(0);
        x.days(13);
        due.is("its last day", x.dryOut(0, 1), NONE);
        x.days(1);
        due.is("its own again", x.dryOut(0, 60), 0);
        due.is("bad ahead of none", x.dryOut(0, 61), BAD);
    }

    // ---- promise 25

    private static void forgers() {
        due.part("25: a PERSON"); forgersAreThere();
        due.part("25: another one's; BAD: also one alike"); oneAlike();
        due.part("25: n DAYS on, 0 .. 60"); edges.within("n", 0, 60, (x, v) -> x.forger(0, 1, v, 0));
        due.part("25: the CHAIR (0), how many STROKES (1)"); edges.within("what", 0, 1, (x, v) -> x.forger(0, 1, 3, v));
        due.part("25: nothing is changed"); edges.foretells("forger 0 1 60 0", x -> x.forger(0, 1, 60, 0)); edges.foretells("forger 2 1 60 1", x -> x.forger(2, 1, 60, 1));
        due.part("25: of all CHAIRS that are free, or its own"); freeOrItsOwn();
        due.part("25: of like ones the least"); leastForgerChair();
        due.part("25: most of another one's own STROKES, each at its place"); mostStrokes();
        due.part("25: moved there now, behind n DAYS"); movedNow();
    }

    private static void forgersAreThere() {
        due.is("of none", new CaughtHand().forger(0, 1, 0, 0), BAD);
        due.is("of one", edges.with("p0000000@0").forger(0, 1, 0, 0), BAD);
        due.is("of one", edges.with("p0000000@0").forger(1, 0, 0, 0), BAD);
        for (int person = 0; person < 6; person++) {
            due.so("of seven", edges.with(Edges.SEVEN).forger(person, 6, 0, 0) >= 0);
            due.so("of seven", edges.with(Edges.SEVEN).forger(6, person, 0, 0) >= 0);
        }
        due.is("of seven", edges.with(Edges.SEVEN).forger(7, 0, 0, 0), BAD);
        due.is("of seven", edges.with(Edges.SEVEN).forger(0, 7, 0, 0), BAD);
        for (int person : new int[] {-1, 3, Integer.MIN_VALUE, Integer.MAX_VALUE}) {
            edges.leavesAll("forger " + person, BAD, x -> x.forger(person, 0, 0, 0));
            edges.leavesAll("other " + person, BAD, x -> x.forger(0, person, 0, 0));
        }
    }

    private static void oneAlike() {
        for (int person = 0; person < 3; person++) {
            int p = person;
            edges.leavesAll("itself", BAD, x -> x.forger(p, p, 1, 0));
            edges.leavesAll("itself", BAD, x -> x.forger(p, p, 1, 1));
        }
        forgerIs(edges.with("p0123456@0,p0123456@3"), 0, 1, 0, 0, 6);
    }

    private static void forgerIs(CaughtHand x, int person, int other, int n, int chair, int strokes) {
        due.is("chair of " + person + " for " + other + " behind " + n, x.forger(person, other, n, 0), chair);
        due.is("strokes of " + person + " for " + other + " behind " + n, x.forger(person, other, n, 1), strokes);
    }

    private static void freeOrItsOwn() {
        // the chairs beside the other one: 2 and 4
        forgerIs(edges.with("p0000000@7,t9111111@3;rr"), 0, 1, 2, 2, 2);
        forgerIs(edges.with("p0000000@7,t9111111@3,p0222222@2;rr"), 0, 1, 2, 4, 2);
        forgerIs(edges.with("p0000000@7,t9111111@3,p0222222@2,p0222222@4;rr"), 0, 1, 2, 0, 0);
        forgerIs(edges.with("p0000000@4,t9111111@3,p0222222@2;rr"), 0, 1, 2, 4, 2);
        forgerIs(edges.with("p0000000@2,t9111111@3,p0222222@4;rr"), 0, 1, 2, 2, 2);
        CaughtHand full = edges.with("p0000000@0,p1222222@1,p1222222@2,t9111111@6,p1222222@3,p1222222@4,p1222222@5;rr");
        forgerIs(full, 0, 3, 2, 7, 2);
        CaughtHand away = edges.with("p0000000@1,p1222222@0,p1222222@2,p1222222@3,t9111111@4,p1222222@5,p1222222@6;rr");
        forgerIs(away, 0, 4, 2, 1, 0);
    }

    private static void leastForgerChair() {
        forgerIs(edges.with("p0000000@7,t9111111@3"), 0, 1, 60, 0, 0);
        forgerIs(edges.with("t9111111@0,p0000000@7"), 1, 0, 60, 1, 0);
        forgerIs(edges.with("p0111111@5,t9111111@0,p0111111@1,p0111111@2"), 0, 1, 60, 3, 6);
        forgerIs(edges.with("p0000000@4,t9111111@3;rr"), 0, 1, 2, 2, 2);
        forgerIs(edges.with("p0000000@4,t9111111@3;rr", 4), 0, 1, 2, 4, 2);
        forgerIs(edges.with("p0000000@7,t9111111@0;rr"), 0, 1, 2, 1, 2);
        forgerIs(edges.with("p0000000@0,t9111111@7;rr"), 0, 1, 2, 6, 2);
    }

    private static void mostStrokes() {
        CaughtHand x = edges.with("p0000000@0,t9123456@5;rrrrrr");
        for (int n = 0; n <= 7; n++) {
            forgerIs(x, 0, 1, n, n == 0 ? 0 : 4, Math.min(n, 6));
        }
        CaughtHand own = edges.with("p0012345@0,t9123450@5;rrrrrr");
        forgerIs(own, 0, 1, 0, 0, 0);
        CaughtHand other = edges.with("p0111111@0,p5222222@5,p9000000@4,t8222222@2;" + Edges.WET);
        other.days(6);
        due.is("the other one writes zeros now", other.of(1, 4), 0);
        forgerIs(other, 0, 1, 0, 0, 0);
        forgerIs(other, 0, 1, 6, 1, 6);
        other.sit(3, 7);
        forgerIs(other, 0, 1, 6, 6, 6);
        other.person(0, 0, 0, 6);
        forgerIs(other, 0, 1, 6, 0, 0);
    }

    private static void movedNow() {
        CaughtHand x = edges.with("p0000000@0,t9100000@5;..r");
        x.lasting(1);
        forgerIs(x, 0, 1, 2, 0, 5);
        forgerIs(x, 0, 1, 3, 4, 6);
        forgerIs(x, 0, 1, 11, 4, 6);
        forgerIs(x, 0, 1, 12, 0, 5);
        forgerIs(x, 0, 1, 33, 4, 6);
        forgerIs(x, 0, 1, 60, 0, 5);
        CaughtHand away = edges.with("p0000000@4,t9100000@5;r");
        away.days(1);
        forgerIs(away, 0, 1, 0, 0, 6);
        forgerIs(away, 0, 1, 34, 0, 6);
        forgerIs(away, 0, 1, 35, 0, 5);
        away.lasting(30);
        forgerIs(away, 0, 1, 60, 4, 6);
    }
}
