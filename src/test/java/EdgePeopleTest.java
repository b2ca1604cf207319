/** Promises 1 to 9 and 12: a test for each sentence that names an edge, told by the promise's number and the sentence. */
public final class EdgePeopleTest {
    private static final int BAD = -1, NOT = -2, FULL = -3, NONE = -4, NULL = -11;
    private static final int LEAST = Integer.MIN_VALUE, GREATEST = Integer.MAX_VALUE;
    private static final Due due = new Due();
    private static final Edges edges = new Edges(due);

    public static void main(String[] args) {
        all().end();
    }

    static Due all() {
        aNewObject();
        aPerson();
        ofAPerson();
        tillADay();
        chairs();
        weatherAndLasting();
        counts();
        return due;
    }

    // ---- promise 1

    private static void aNewObject() {
        due.part("1: An empty office"); emptyOffice();
        due.part("1: THE DAY is 0 at first"); dayAtFirst();
        due.part("1: CHAIRS are DRY or not (none at first)"); dryAtFirst();
        due.part("1: a DAY is WET, if that bit is set (none at first)"); weatherAtFirst();
        due.part("1: LASTING is L (14 at first)"); lastingAtFirst();
        due.part("1: THE DRAW is a number (1 at first)"); drawAtFirst();
        due.part("1: sheets 0 .. 3: nothing (at first)"); sheetsAtFirst();
        due.part("1: nothing may be UNDONE, there is no IMAGE, THE TAPE is empty"); nothingKeptAtFirst();
        due.part("1: An object is used for at most 512 calls"); fiveHundredAndTwelve();
    }

    private static void emptyOffice() {
        CaughtHand changed = Edges.rich();
        CaughtHand x = new CaughtHand();
        due.is("people", x.count(0), 0);
        due.is("strokes", x.count(6), 0);
        due.is("of", x.of(0, 0), BAD);
        for (int chair = 0; chair < 8; chair++) {
            due.is("at " + chair, x.at(chair), NONE);
        }
        due.is("who", x.who(0, 60), 0);
        due.is("tree", x.tree(), 0);
        due.is("the other one is not", changed.count(0), 3);
    }

    private static void dayAtFirst() {
        CaughtHand x = new CaughtHand();
        due.is("the day", x.count(1), 0);
        x.days(1);
        due.is("behind one", x.count(1), 1);
    }

    private static void dryAtFirst() {
        CaughtHand x = new CaughtHand();
        due.is("set", x.count(3), 0);
        for (int chair = 0; chair < 8; chair++) {
            due.is("dry " + chair, x.dry(chair, 1), 0);
        }
        due.is("set", x.count(3), 255);
    }

    private static void weatherAtFirst() {
        CaughtHand x = new CaughtHand();
        x.person(0, 0, 0, 0);
        x.person(0, 1, 111111, 1);
        for (int day = 0; day < 31; day++) {
            due.is("wet on day " + day, x.count(2), 0);
            due.is("taken on day " + day, x.days(1), 0);
        }
        due.is("weather", x.weather(0), 0);
    }

    private static void lastingAtFirst() {
        CaughtHand x = new CaughtHand();
        due.is("count", x.count(4), 14);
        x.person(0, 0, 0, 0);
        x.person(0, 1, 111111, 1);
        due.is("of", x.of(1, 6), 14);
        x.weather(1);
        x.days(1);
        due.is("till", x.till(0, 0), 14);
        due.is("lasting", x.lasting(30), 14);
    }

    private static void drawAtFirst() {
        due.is("seed", new CaughtHand().seed(0), 1);
        CaughtHand x = new CaughtHand();
        x.drift(1);
        due.is("behind a draw", x.seed(0), 1103527590);
    }

    private static void sheetsAtFirst() {
        CaughtHand x = new CaughtHand();
        x.person(0, 0, 0, 0);
        for (int sheet = 0; sheet < 4; sheet++) {
            for (int lane = 0; lane < 4; lane++) {
                due.is("item", x.item(sheet, lane, 0, 0), NULL);
                due.is("lasted", x.lasted(0, sheet, lane, 0, 1), NULL);
                due.is("film", x.film(0, 1, sheet, lane, 0), NULL);
            }
            due.is("drop", x.drop(sheet), NULL);
        }
    }

    private static void nothingKeptAtFirst() {
        CaughtHand x = new CaughtHand();
        due.is("known", x.count(5), 0);
        due.is("undo", x.undo(), NONE);
        due.is("restore", x.restore(), NONE);
        due.is("type", x.type('p'), 1);
        due.is("office of no letters", new CaughtHand().office(), -20);
    }

    private static void fiveHundredAndTwelve() {
        CaughtHand x = new CaughtHand();
        for (int k = 1; k < 512; k++) {
            due.is("call " + k, x.days(1), 0);
        }
        due.is("the last call", x.count(1), 511);
    }

    // ---- promise 2

    private static void aPerson() {
        due.part("2: PEOPLE 0 .. 6, as they come"); peopleAsTheyCome();
        due.part("2: FULL: 7"); sevenPeople();
        due.part("2: KINDS: 0 .. 3"); edges.within("kind", 0, 3, (x, v) -> x.person(v, 0, 0, 7));
        due.part("2: a STRENGTH (0 .. 9)"); edges.within("strength", 0, 9, (x, v) -> x.person(0, v, 0, 7));
        due.part("2: a HAND told as a number of six figures (0 .. 777777); BAD (a figure 8 or 9, too)");
        edges.sixFigures("hand", (x, v) -> x.person(0, 0, v, 7));
        due.part("2: the first one first"); firstFigureFirst();
        due.part("2: sit on a CHAIR (0 .. 7)"); chairsOfNewPeople();
        due.part("2: one on each; NOT: somebody sits there"); somebodySitsThere();
        due.part("2: BAD ahead of all others, then NOT, then FULL"); personRefusedInOrder();
        due.part("2: WRITES six STROKES, its own at first"); ownAtFirst();
        due.part("2: a new PERSON leaves nothing to be UNDONE"); nothingToUndoBehindAPerson();
    }

    private static void peopleAsTheyCome() {
        CaughtHand x = new CaughtHand();
        for (int k = 0; k < 7; k++) {
            due.is("people ahead of person " + k, x.count(0), k);
            due.is("of a person that is not yet", x.of(k, 0), BAD);
            due.is("person", x.person(k % 4, k, 111111 * k, 7 - k), k);
        }
        for (int k = 0; k < 7; k++) {
            due.is("kind", x.of(k, 0), k % 4);
            due.is("strength", x.of(k, 1), k);
            due.is("hand", x.of(k, 2), 111111 * k);
            due.is("chair", x.of(k, 3), 7 - k);
            due.is("at", x.at(7 - k), k);
        }
        due.is("at the free one", x.at(0), NONE);
    }

    private static void sevenPeople() {
        CaughtHand x = edges.with(Edges.SEVEN);
        String before = Due.stateOf(x);
        due.is("an eighth", x.person(0, 0, 0, 7), FULL);
        due.so("it changes nothing", Due.stateOf(x).equals(before));
        due.is("the chair is free", x.at(7), NONE);
        CaughtHand six = new CaughtHand();
        for (int k = 0; k < 6; k++) {
            six.person(0, 0, 0, k);
        }
        due.is("a seventh", six.person(0, 0, 0, 7), 6);
        due.is("an eighth", six.person(0, 0, 0, 6), FULL);
    }

    private static void firstFigureFirst() {
        for (int place = 0; place < 6; place++) {
            int hand = 700000;
            for (int k = 0; k < place; k++) {
                hand /= 10;
            }
            CaughtHand x = new CaughtHand();
            x.person(0, 0, 0, 0);
            x.person(0, 1, hand, 1);
            x.weather(1);
            due.is("taken of " + hand, x.days(1), 1);
            due.so("at place " + place, x.till(0, place) >= 0);
            due.is("written", x.of(0, 4), hand);
        }
    }

    private static void chairsOfNewPeople() {
        for (int chair = 0; chair < 8; chair++) {
            CaughtHand x = new CaughtHand();
            due.is("person on " + chair, x.person(0, 0, 0, chair), 0);
            due.is("at", x.at(chair), 0);
            due.is("of", x.of(0, 3), chair);
        }
        for (int chair : new int[] {-1, 8, LEAST, GREATEST}) {
            edges.leavesAll("person on " + chair, BAD, x -> x.person(0, 0, 0, chair));
        }
    }

    private static void somebodySitsThere() {
        for (int chair : new int[] {0, 1, 4}) {
            edges.leavesAll("person on " + chair, NOT, x -> x.person(0, 0, 0, chair));
        }
        for (int chair : new int[] {2, 3, 5, 6, 7}) {
            due.is("person on " + chair, Edges.rich().person(0, 0, 0, chair), 3);
        }
        for (int chair = 0; chair < 8; chair += 7) {
            CaughtHand x = new CaughtHand();
            x.person(0, 0, 0, chair);
            due.is("on an end", x.person(0, 0, 0, chair), NOT);
            x.sit(0, 3);
            due.is("where it sits now", x.person(0, 0, 0, 3), NOT);
            due.is("where it sat", x.person(0, 0, 0, chair), 1);
        }
    }

    private static void personRefusedInOrder() {
        edges.leavesAll("a bad kind on a taken chair", BAD, x -> x.person(4, 0, 0, 0));
        edges.leavesAll("a bad strength on a taken chair", BAD, x -> x.person(0, 10, 0, 0));
        edges.leavesAll("a bad hand on a taken chair", BAD, x -> x.person(0, 0, 8, 0));
        CaughtHand x = edges.with(Edges.SEVEN);
        due.is("a taken chair of a full office", x.person(0, 0, 0, 6), NOT);
        due.is("a free chair of a full office", x.person(0, 0, 0, 7), FULL);
        due.is("a bad hand in a full office", x.person(0, 0, 9, 7), BAD);
        due.is("a bad kind in a full office", x.person(-1, 0, 0, 6), BAD);
        due.is("no such chair in a full office", x.person(0, 0, 0, 8), BAD);
    }

    private static void ownAtFirst() {
        CaughtHand x = edges.with("p0000000@0,p9777777@1;" + Edges.WET);
        x.image();
        x.days(3);
        due.is("behind three days", x.person(2, 0, 123456, 2), 2);
        due.is("writes", x.of(2, 4), 123456);
        due.is("taken", x.of(2, 5), 0);
        for (int place = 0; place < 6; place++) {
            due.is("till", x.till(2, place), NONE);
        }
        x.days(2);
        due.is("the new one took two", x.of(2, 5), 2);
        x.restore();
        x.person(0, 0, 765432, 5);
        due.is("its number had taken strokes ahead of the image", x.of(2, 5), 0);
        due.is("till", x.till(2, 0), NONE);
        due.is("writes", x.of(2, 4), 765432);
    }

    private static void nothingToUndoBehindAPerson() {
        for (int days : new int[] {1, 8, 9}) {
            CaughtHand x = new CaughtHand();
            x.days(days);
            x.person(0, 0, 8, 0);
            due.is("known behind a refused one", x.count(5), Math.min(days, 8));
            x.person(0, 0, 0, 0);
            due.is("known", x.count(5), 0);
            due.is("undo", x.undo(), NONE);
            due.is("the day", x.count(1), days);
            x.days(1);
            due.is("known of a new day", x.count(5), 1);
            due.is("undo of a new day", x.undo(), 0);
            due.is("undo", x.undo(), NONE);
            due.is("the day", x.count(1), days);
        }
    }

    // ---- promise 3

    private static void ofAPerson() {
        due.part("3: Of a PERSON"); edges.aPerson("person", (x, v) -> x.of(v, 0));
        due.part("3: what: 0 .. 6"); edges.within("what", 0, 6, (x, v) -> x.of(0, v));
        due.part("3: 0 KIND, 1 STRENGTH, 2 its own HAND, 3 its CHAIR"); leastAndGreatestOf();
        due.part("3: 4 what it WRITES"); whatItWrites();
        due.part("3: 5 how many STROKES are so till a DAY"); howManyAreSo();
        due.part("3: 6 how long what is taken of it LASTS"); howLongItLasts();
    }

    private static void leastAndGreatestOf() {
        CaughtHand x = edges.with("p0000000@0,t9777777@7,s5000001@3,l4100000@4");
        int[][] want = {{0, 0, 0, 0}, {3, 9, 777777, 7}, {1, 5, 1, 3}, {2, 4, 100000, 4}};
        for (int person = 0; person < 4; person++) {
            for (int what = 0; what < 4; what++) {
                due.is("of " + person + " " + what, x.of(person, what), want[person][what]);
            }
        }
    }

    private static void whatItWrites() {
        CaughtHand x = edges.with("p0000000@0,p9777777@1;" + Edges.WET);
        int[] writes = {0, 700000, 770000, 777000, 777700, 777770, 777777, 777777};
        for (int day = 0; day < writes.length; day++) {
            due.is("behind " + day, x.of(0, 4), writes[day]);
            due.is("its own", x.of(0, 2), 0);
            due.is("the other one", x.of(1, 4), 777777);
            x.days(1);
        }
    }

    private static void howManyAreSo() {
        CaughtHand x = edges.with("p0000000@0,p9777777@1;rrrrrr");
        for (int day = 0; day <= 20; day++) {
            due.is("of the one, day " + day, x.of(0, 5), day <= 14 ? Math.min(day, 6) : 20 - day);
            due.is("of the other", x.of(1, 5), 0);
            x.days(1);
        }
    }

    private static void howLongItLasts() {
        CaughtHand x = edges.with("p0000000@0,s0000000@1,l0000000@2,t0000000@3");
        int[][] want = {{1, 1, 2, 1, 9}, {2, 2, 4, 2, 11}, {14, 14, 28, 14, 35}, {29, 29, 58, 29, 65}, {30, 30, 60, 30, 67}};
        for (int[] row : want) {
            x.lasting(row[0]);
            for (int kind = 0; kind < 4; kind++) {
                due.is("of kind " + kind + " with " + row[0], x.of(kind, 6), row[kind + 1]);
            }
        }
    }

    // ---- promise 4

    private static void tillADay() {
        due.part("4: of a PERSON"); edges.aPerson("person", (x, v) -> x.till(v, 0));
        due.part("4: a STROKE (0 .. 5)"); edges.within("place", 0, 5, (x, v) -> x.till(0, v));
        due.part("4: The DAY till which a STROKE is WRITTEN so"); tillWhichDay();
        due.part("4: NONE: it was not taken, or is its own again"); noDay();
        due.part("4: of those that were taken (also one that is like its own), each is so till a DAY"); likeItsOwn();
    }

    private static void tillWhichDay() {
        CaughtHand x = edges.with("p0000000@0,p9123456@1;" + Edges.WET);
        x.lasting(20);
        x.days(6);
        for (int place = 0; place < 6; place++) {
            due.is("till at " + place, x.till(0, place), place + 20);
        }
        CaughtHand again = edges.with("p0000000@1,p5700000@0,p5600000@7;rr");
        again.days(1);
        due.is("of the first", again.till(0, 0), 14);
        again.sit(1, 5);
        again.sit(2, 2);
        again.days(1);
        due.is("of the second", again.till(0, 0), 15);
        due.is("written", again.of(0, 4), 600000);
        due.is("one stroke all in all", again.of(0, 5), 1);
        again.days(13);
        due.is("on the day of the second", again.of(0, 4), 600000);
        again.days(1);
        due.is("behind it", again.of(0, 4), 0);
    }

    private static void noDay() {
        CaughtHand x = edges.with("p0000000@0,p9123456@1;r");
        x.lasting(3);
        due.is("not taken", x.till(0, 0), NONE);
        x.days(3);
        due.is("on its last day", x.till(0, 0), 3);
        due.is("so", x.of(0, 4), 100000);
        due.is("not taken", x.till(0, 1), NONE);
        x.days(1);
        due.is("its own again", x.till(0, 0), NONE);
        due.is("so", x.of(0, 4), 0);
        due.is("the other one's", x.till(1, 0), NONE);
    }

    private static void likeItsOwn() {
        // day 0: of the second one, who writes 2 then; day 1: 1 of it, who took 1 of the third one
        CaughtHand x = edges.with("p0100000@0,p1200000@1,t9100000@2;rr");
        x.days(1);
        due.is("taken", x.of(0, 4), 200000);
        x.days(1);
        due.is("like its own", x.of(0, 4), 100000);
        due.is("is so till a day", x.till(0, 0), 1 + 14);
        due.is("is counted", x.of(0, 5), 1);
        due.is("is counted of all", x.count(6), 2);
        x.days(13);
        due.is("on that day", x.till(0, 0), 15);
        x.days(1);
        due.is("behind it", x.till(0, 0), NONE);
        due.is("the same stroke", x.of(0, 4), 100000);
    }

    // ---- promises 5, 6, 7

    private static void chairs() {
        due.part("5: A PERSON sits down"); edges.aPerson("person", (x, v) -> x.sit(v, 7));
        due.part("5: on a CHAIR (0 .. 7)"); edges.within("chair", 0, 7, (x, v) -> x.sit(0, v));
        due.part("5: whoever sits there has its own then"); exchanged();
        due.part("5: where it was"); whereItWas();
        due.part("6: a CHAIR (0 .. 7)"); edges.within("chair", 0, 7, (x, v) -> x.at(v));
        due.part("6: Who sits there. NONE"); whoSitsThere();
        due.part("7: a CHAIR (0 .. 7)"); edges.within("chair", 0, 7, (x, v) -> x.dry(v, 1));
        due.part("7: DRY (1), or not (0)"); edges.within("is", 0, 1, (x, v) -> x.dry(6, v));
        due.part("7: what it was"); dryBefore();
    }

    private static void exchanged() {
        for (int one = 0; one < 8; one++) {
            for (int other = 0; other < 8; other++) {
                if (one == other) {
                    continue;
                }
                CaughtHand x = new CaughtHand();
                x.person(0, 0, 0, one);
                x.person(0, 0, 0, other);
                due.is("sit", x.sit(0, other), one);
                due.is("it sits there", x.of(0, 3), other);
                due.is("the other one has its own", x.of(1, 3), one);
                due.is("at", x.at(other), 0);
                due.is("at", x.at(one), 1);
            }
        }
    }

    private static void whereItWas() {
        CaughtHand x = edges.with("p0000000@0,p9777777@3;r");
        x.days(1);
        due.is("to a free one", x.sit(0, 7), 0);
        due.is("its own is free", x.at(0), NONE);
        due.is("on its own", x.sit(0, 7), 7);
        due.is("it stays", x.at(7), 0);
        due.is("back", x.sit(0, 0), 7);
        due.is("its own is free", x.at(7), NONE);
        due.is("a day may still be undone", x.count(5), 1);
    }

    private static void whoSitsThere() {
        CaughtHand x = new CaughtHand();
        for (int k = 0; k < 7; k++) {
            due.is("free", x.at(k), NONE);
            x.person(0, 0, 0, k);
            due.is("person", x.at(k), k);
        }
        due.is("the last chair", x.at(7), NONE);
        x.sit(0, 7);
        due.is("person 0", x.at(7), 0);
        due.is("left", x.at(0), NONE);
    }

    private static void dryBefore() {
        CaughtHand x = new CaughtHand();
        for (int chair = 0; chair < 8; chair++) {
            due.is("not", x.dry(chair, 0), 0);
            due.is("not", x.dry(chair, 1), 0);
            due.is("set", x.count(3), 1 << chair);
            due.is("dry", x.dry(chair, 1), 1);
            due.is("set", x.count(3), 1 << chair);
            due.is("dry", x.dry(chair, 0), 1);
            due.is("set", x.count(3), 0);
        }
    }

    // ---- promises 8, 9

    private static void weatherAndLasting() {
        due.part("8: WEATHER (0 .. 1073741823)"); edges.within("weather", 0, 1073741823, (x, v) -> x.weather(v));
        due.part("8: what it was"); weatherBefore();
        due.part("8: that bit of it at which it is, left over by 30"); leftOverByThirty();
        due.part("9: LASTING is L (1 .. 30)"); edges.within("lasting", 1, 30, (x, v) -> x.lasting(v));
        due.part("9: what it was"); lastingBefore();
    }

    private static void weatherBefore() {
        CaughtHand x = new CaughtHand();
        due.is("weather", x.weather(1073741823), 0);
        due.is("weather", x.weather(1073741824), BAD);
        due.is("weather", x.weather(-1), BAD);
        due.is("weather", x.weather(1), 1073741823);
        due.is("weather", x.weather(0), 1);
        due.is("weather", x.weather(0), 0);
    }

    private static void leftOverByThirty() {
        for (int bit : new int[] {0, 1, 15, 28, 29}) {
            CaughtHand x = new CaughtHand();
            x.weather(1 << bit);
            for (int day = 0; day <= 91; day++) {
                due.is("bit " + bit + " on day " + day, x.count(2), day == bit || day == bit + 30 || day == bit + 60 || day == bit + 90 ? 1 : 0);
                x.days(1);
            }
        }
    }

    private static void lastingBefore() {
        CaughtHand x = new CaughtHand();
        due.is("lasting", x.lasting(1), 14);
        due.is("lasting", x.lasting(0), BAD);
        due.is("lasting", x.lasting(30), 1);
        due.is("lasting", x.lasting(31), BAD);
        due.is("lasting", x.lasting(30), 30);
        due.is("count", x.count(4), 30);
    }

    // ---- promise 12

    private static void counts() {
        due.part("12: what: 0 .. 6"); edges.within("what", 0, 6, (x, v) -> x.count(v));
        due.part("12: 0 PEOPLE"); countPeople();
        due.part("12: 1 THE DAY, 2 whether it is WET (1, 0)"); countDay();
        due.part("12: 3 DRY CHAIRS (a set)"); countDry();
        due.part("12: 4 LASTING"); countLasting();
        due.part("12: 5 DAYS that may be UNDONE"); countKnown();
        due.part("12: 6 STROKES of all that are so till a DAY"); countStrokes();
    }

    private static void countPeople() {
        due.is("none", new CaughtHand().count(0), 0);
        due.is("one", edges.with("p0000000@7").count(0), 1);
        due.is("seven", edges.with(Edges.SEVEN).count(0), 7);
    }

    private static void countDay() {
        CaughtHand x = new CaughtHand();
        x.weather(1 << 29);
        x.days(28);
        int[] wet = {0, 1, 0};
        for (int k = 0; k < 3; k++) {
            due.is("day", x.count(1), 28 + k);
            due.is("wet", x.count(2), wet[k]);
            x.days(1);
        }
        x.weather(2);
        due.is("by the weather that is", x.count(2), 1);
    }

    private static void countDry() {
        CaughtHand x = new CaughtHand();
        due.is("none", x.count(3), 0);
        x.dry(0, 1);
        due.is("the first", x.count(3), 1);
        x.dry(7, 1);
        due.is("the last, too", x.count(3), 129);
        for (int chair = 1; chair < 7; chair++) {
            x.dry(chair, 1);
        }
        due.is("all", x.count(3), 255);
    }

    private static void countLasting() {
        CaughtHand x = new CaughtHand();
        for (int l : new int[] {1, 30}) {
            x.lasting(l);
            due.is("lasting", x.count(4), l);
        }
    }

    private static void countKnown() {
        CaughtHand x = new CaughtHand();
        for (int day = 0; day <= 10; day++) {
            due.is("known", x.count(5), Math.min(day, 8));
            x.days(1);
        }
        x.undo();
        due.is("one less", x.count(5), 7);
    }

    private static void countStrokes() {
        CaughtHand x = edges.with(Edges.SEVEN + ";" + Edges.WET);
        x.lasting(30);
        due.is("none", x.count(6), 0);
        x.days(1);
        due.is("one of each but the strongest", x.count(6), 6);
        x.days(11);
        due.is("all of all but the strongest", x.count(6), 36);
    }
}
