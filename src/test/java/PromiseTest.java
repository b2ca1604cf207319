/** At least one test for each promise of the document, by its number. */
public final class PromiseTest {
    private static final int BAD = -1, NOT = -2, FULL = -3, NONE = -4, NULL = -11, CAST = -12, INDEX = -13, SIZE = -14;
    private static final int LEAST = Integer.MIN_VALUE, GREATEST = Integer.MAX_VALUE;
    private static final Due due = new Due();

    public static void main(String[] args) {
        peopleAndChairs();
        daysOnEnd();
        foretold();
        sheets();
        due.end();
    }

    private static void peopleAndChairs() {
        due.part("promise 1"); promise1();
        due.part("promise 2"); promise2();
        due.part("promise 3"); promise3();
        due.part("promise 4"); promise4();
        due.part("promise 5"); promise5();
        due.part("promise 6"); promise6();
        due.part("promise 7"); promise7();
        due.part("promise 8"); promise8();
        due.part("promise 9"); promise9();
        due.part("promise 10"); promise10();
        due.part("promise 11"); promise11(); promise11Faults(); promise11Full();
        due.part("promise 12"); promise12();
    }

    private static void daysOnEnd() {
        due.part("promise 13"); promise13(); promise13Kinds(); promise13Whom(); promise13Full();
        due.part("promise 14"); promise14();
        due.part("promise 15"); promise15();
        due.part("promise 16"); promise16();
    }

    private static void foretold() {
        due.part("promise 17"); promise17();
        due.part("promise 18"); promise18();
        due.part("promise 19"); promise19();
        due.part("promise 20"); promise20();
        due.part("promise 21"); promise21();
        due.part("promise 22"); promise22();
        due.part("promise 23"); promise23();
        due.part("promise 24"); promise24();
        due.part("promise 25"); promise25();
        due.part("promise 26"); promise26();
        due.part("promise 27"); promise27();
        due.part("promise 28"); promise28();
        due.part("promise 29"); promise29();
        due.part("promise 30"); promise30();
    }

    private static void sheets() {
        due.part("promise 31"); promise31(); promise31Refused();
        due.part("promise 32"); promise32();
        due.part("promise 33"); promise33();
        due.part("promise 34"); promise34();
        due.part("promise 35"); promise35();
        due.part("promise 36"); promise36();
    }

    private static CaughtHand with(String text) {
        CaughtHand x = new CaughtHand();
        int answer = Due.officeOf(x, text);
        if (answer < 0) {
            due.is("office of " + text, answer, 1);
        }
        return x;
    }

    private static void unchanged(String call, CaughtHand x, String before, long got, long want) {
        due.is(call, got, want);
        due.is(call + " changes nothing", Due.stateOf(x).equals(before) ? 1 : 0, 1);
    }

    private static void promise1() {
        CaughtHand x = new CaughtHand();
        int[] counts = {0, 0, 0, 0, 14, 0, 0};
        for (int what = 0; what <= 6; what++) {
            due.is("count " + what, x.count(what), counts[what]);
        }
        for (int chair = 0; chair < 8; chair++) {
            due.is("at " + chair, x.at(chair), NONE);
        }
        due.is("weather", x.weather(0), 0);
        due.is("seed", x.seed(5), 1);
        due.is("type", x.type('p'), 1);
        due.is("undo", x.undo(), NONE);
        due.is("restore", x.restore(), NONE);
        for (int sheet = 0; sheet < 4; sheet++) {
            due.is("drop " + sheet, x.drop(sheet), NULL);
        }
        due.is("tree", x.tree(), 0);
        due.is("of nobody", x.of(0, 0), BAD);
    }

    private static void promise2() {
        CaughtHand x = new CaughtHand();
        String empty = Due.stateOf(x);
        int[][] bad = {{-1, 0, 0, 0}, {4, 0, 0, 0}, {0, -1, 0, 0}, {0, 10, 0, 0}, {0, 0, -1, 0}, {0, 0, 777778, 0}, {0, 0, 8, 0},
            {0, 0, 9, 0}, {0, 0, 80, 0}, {0, 0, 123496, 0}, {0, 0, 800000, 0}, {0, 0, 1000000, 0}, {0, 0, 0, -1}, {0, 0, 0, 8},
            {LEAST, 0, 0, 0}, {GREATEST, 0, 0, 0}, {0, LEAST, 0, 0}, {0, GREATEST, 0, 0}, {0, 0, LEAST, 0}, {0, 0, GREATEST, 0},
            {0, 0, 0, LEAST}, {0, 0, 0, GREATEST}};
        for (int[] b : bad) {
            unchanged("person " + b[0] + " " + b[1] + " " + b[2] + " " + b[3], x, empty, x.person(b[0], b[1], b[2], b[3]), BAD);
        }
        x = new CaughtHand();
        due.is("person", x.person(0, 0, 170777, 3), 0);
        String one = Due.stateOf(x);
        unchanged("occupied", x, one, x.person(3, 9, 777777, 3), NOT);
        due.is("bad ahead of occupied", x.person(4, 9, 777777, 3), BAD);
        due.is("person", x.person(3, 9, 777777, 0), 1);
        due.is("person", x.person(2, 9, 0, 7), 2);
        due.is("person", x.person(1, 5, 7, 1), 3);
        due.is("person", x.person(1, 5, 7, 2), 4);
        due.is("person", x.person(1, 5, 7, 4), 5);
        due.is("person", x.person(1, 5, 7, 5), 6);
        String full = Due.stateOf(x);
        unchanged("full", x, full, x.person(0, 0, 0, 6), FULL);
        unchanged("occupied ahead of full", x, full, x.person(0, 0, 0, 5), NOT);
        unchanged("bad ahead of full", x, full, x.person(0, 0, 8, 6), BAD);
        CaughtHand y = new CaughtHand();
        y.days(3);
        y.person(9, 0, 0, 0);
        due.is("days known behind a refused person", y.count(5), 3);
        y.person(0, 0, 0, 0);
        due.is("days known behind a new person", y.count(5), 0);
        due.is("the day stays", y.count(1), 3);
    }

    private static void promise3() {
        CaughtHand x = new CaughtHand();
        x.person(0, 3, 12345, 2);
        x.person(1, 9, 777777, 3);
        x.person(2, 0, 0, 7);
        x.person(3, 5, 70, 0);
        int[][] want = {{0, 3, 12345, 2, 12345, 0, 14}, {1, 9, 777777, 3, 777777, 0, 28}, {2, 0, 0, 7, 0, 0, 14}, {3, 5, 70, 0, 70, 0, 35}};
        for (int person = 0; person < 4; person++) {
            for (int what = 0; what <= 6; what++) {
                due.is("of " + person + " " + what, x.of(person, what), want[person][what]);
            }
        }
        x.lasting(3);
        due.is("plain lasts", x.of(0, 6), 3);
        due.is("strong lasts", x.of(1, 6), 6);
        due.is("left lasts", x.of(2, 6), 3);
        due.is("teacher lasts", x.of(3, 6), 13);
        x.weather(1);
        x.days(1);
        due.is("writes", x.of(0, 4), 712345);
        due.is("own stays", x.of(0, 2), 12345);
        due.is("taken", x.of(0, 5), 1);
        due.is("of", x.of(-1, 0), BAD);
        due.is("of", x.of(4, 0), BAD);
        due.is("of", x.of(0, -1), BAD);
        due.is("of", x.of(0, 7), BAD);
        due.is("of", x.of(LEAST, LEAST), BAD);
        due.is("of", x.of(GREATEST, GREATEST), BAD);
    }

    private static void promise4() {
        CaughtHand x = with("p0000000@0,p1123456@1;rr");
        x.lasting(2);
        for (int place = 0; place < 6; place++) {
            due.is("till 0 " + place, x.till(0, place), NONE);
        }
        x.days(2);
        due.is("till", x.till(0, 0), 2);
        due.is("till", x.till(0, 1), 3);
        due.is("till", x.till(0, 2), NONE);
        due.is("till", x.till(1, 0), NONE);
        x.days(1);
        due.is("its own again", x.till(0, 0), NONE);
        due.is("not yet", x.till(0, 1), 3);
        due.is("writes", x.of(0, 4), 20000);
        due.is("till", x.till(0, -1), BAD);
        due.is("till", x.till(0, 6), BAD);
        due.is("till", x.till(-1, 0), BAD);
        due.is("till", x.till(2, 0), BAD);
        due.is("till", x.till(GREATEST, GREATEST), BAD);
    }

    private static void promise5() {
        CaughtHand x = with("p0111111@0,p0222222@7");
        due.is("to a free chair", x.sit(0, 3), 0);
        due.is("left free", x.at(0), NONE);
        due.is("taken", x.at(3), 0);
        due.is("to somebody's", x.sit(0, 7), 3);
        due.is("has its own then", x.of(1, 3), 3);
        due.is("sits there", x.of(0, 3), 7);
        due.is("to its own", x.sit(1, 3), 3);
        due.is("stays", x.at(3), 1);
        String before = Due.stateOf(x);
        unchanged("sit", x, before, x.sit(0, -1), BAD);
        unchanged("sit", x, before, x.sit(0, 8), BAD);
        unchanged("sit", x, before, x.sit(-1, 0), BAD);
        unchanged("sit", x, before, x.sit(2, 0), BAD);
    }

    private static void promise6() {
        CaughtHand x = with("p0111111@0,p0222222@7");
        due.is("at", x.at(0), 0);
        due.is("at", x.at(7), 1);
        due.is("at", x.at(1), NONE);
        due.is("at", x.at(-1), BAD);
        due.is("at", x.at(8), BAD);
        due.is("at", x.at(LEAST), BAD);
        due.is("at", x.at(GREATEST), BAD);
    }

    private static void promise7() {
        CaughtHand x = with("p0000000@0,p1111111@1,p2222222@2;r");
        due.is("dry", x.dry(0, 1), 0);
        due.is("dry", x.dry(0, 1), 1);
        due.is("dry", x.dry(7, 1), 0);
        due.is("set", x.count(3), 129);
        due.is("dry", x.dry(0, 0), 1);
        due.is("dry", x.dry(0, 0), 0);
        due.is("set", x.count(3), 128);
        String before = Due.stateOf(x);
        unchanged("dry", x, before, x.dry(-1, 0), BAD);
        unchanged("dry", x, before, x.dry(8, 0), BAD);
        unchanged("dry", x, before, x.dry(0, -1), BAD);
        unchanged("dry", x, before, x.dry(0, 2), BAD);
        due.is("nothing dry", x.writes(0, 1), 100000);
        due.is("nothing dry", x.writes(1, 1), 211111);
        x.dry(1, 1);
        due.is("beside a dry one", x.writes(0, 1), 0);
        due.is("on a dry one", x.writes(1, 1), 111111);
    }

    private static void promise8() {
        CaughtHand x = new CaughtHand();
        due.is("weather", x.weather(1073741823), 0);
        due.is("weather", x.weather(5), 1073741823);
        due.is("weather", x.weather(-1), BAD);
        due.is("weather", x.weather(1073741824), BAD);
        due.is("weather", x.weather(LEAST), BAD);
        due.is("weather", x.weather(GREATEST), BAD);
        due.is("it stays", x.weather(1 << 29), 5);
        for (int day = 0; day < 60; day++) {
            due.is("wet on " + day, x.count(2), day % 30 == 29 ? 1 : 0);
            x.days(1);
        }
    }

    private static void promise9() {
        CaughtHand x = with("p0000000@0,p1111111@1;rr");
        due.is("lasting", x.lasting(30), 14);
        due.is("lasting", x.lasting(1), 30);
        due.is("lasting", x.lasting(0), BAD);
        due.is("lasting", x.lasting(31), BAD);
        due.is("lasting", x.lasting(LEAST), BAD);
        due.is("it stays", x.lasting(5), 1);
        x.days(1);
        x.lasting(9);
        x.days(1);
        due.is("taken of old stays", x.till(0, 0), 5);
        due.is("taken of new", x.till(0, 1), 10);
    }

    private static void promise10() {
        CaughtHand x = new CaughtHand();
        due.is("type", x.type(31), BAD);
        due.is("type", x.type(127), BAD);
        due.is("type", x.type(-1), BAD);
        due.is("type", x.type(GREATEST), BAD);
        for (int k = 1; k <= 130; k++) {
            due.is("type", x.type(k % 2 == 0 ? 32 : 126), k);
        }
        due.is("full", x.type(32), FULL);
        due.is("bad ahead of full", x.type(31), BAD);
        due.is("first sign", x.office(), -20);
        due.is("empty then", x.type('p'), 1);
    }

    private static void promise11() {
        CaughtHand x = new CaughtHand();
        x.lasting(3);
        x.seed(77);
        x.sheet(2, 1, 7);
        x.weather(9);
        x.dry(4, 1);
        x.person(1, 1, 1, 1);
        x.days(5);
        due.is("all kinds", Due.officeOf(x, "p0000000@7,s9777777@0,l5123456@3,t1000007@1;r.r"), 4);
        int[][] want = {{0, 0, 0, 7}, {1, 9, 777777, 0}, {2, 5, 123456, 3}, {3, 1, 7, 1}};
        for (int person = 0; person < 4; person++) {
            for (int what = 0; what < 4; what++) {
                due.is("of " + person + " " + what, x.of(person, what), want[person][what]);
            }
            due.is("writes its own", x.of(person, 4), want[person][2]);
        }
        int[] counts = {4, 0, 1, 0, 3, 0, 0};
        for (int what = 0; what <= 6; what++) {
            due.is("count " + what, x.count(what), counts[what]);
        }
        due.is("weather", x.weather(3), 5);
        due.is("draw stays", x.seed(1), 77);
        due.is("sheets stay", x.drop(2), 7);
        x.dry(0, 1);
        x.dry(7, 1);
        x.days(7);
        x.writes(0, 9);
        due.is("behind days, dry chairs and foretelling", Due.officeOf(x, "p0000000@7,s9777777@0"), 2);
        due.is("no chair is dry", x.count(3), 0);
        due.is("day 0", x.count(1), 0);
        due.is("no weather", x.weather(5), 0);
        due.is("blanks", Due.officeOf(x, "  l 3 1 2 3 4 5 6 @ 4  , p0000001@5 ; r  "), 2);
        due.is("of blanks", x.of(0, 2), 123456);
        due.is("weather of blanks", x.weather(0), 1);
        x.weather(8);
        due.is("no weather told", Due.officeOf(x, "t9111111@4"), 1);
        due.is("then none", x.weather(0), 0);
        StringBuilder wet = new StringBuilder("p0000000@0;");
        for (int k = 0; k < 29; k++) {
            wet.append('.');
        }
        due.is("30 signs", Due.officeOf(x, wet + "r"), 1);
        due.is("the last", x.weather(0), 1 << 29);
        due.is("31 signs", Due.officeOf(x, wet + "r."), -20 - 41);
        due.is("31 signs and blanks", Due.officeOf(x, wet + "r  r"), -20 - 43);
    }

    private static void promise11Faults() {
        String[] texts = {"", "   ", "x", " x", "P", "p", "pa", "p5", "p58", "p5123458", "p5123456", "p5123456 ", "p51234567", "p5123456@",
            "p5123456@8", "p5123456@9", "p5123456@a", "p5123456@0;", "p5123456@0; ", "p5123456@0;,", "p5123456@0;rx", "p5123456@0;r,p",
            "p5123456@0,", "p5123456@0 ,  ", "p5123456@0,x", "p5123456@0,p5123456@0", "p5123456@0p", "p5123456@0 .", "p 5 12 3 4 5 9", "p@0", "p5@0", "p5123@0", "p5123456@@", "p5123456 0", ",p5123456@0", ";r",
            "p5123456@0,;r", "p5123456@0;;", "p-123456@0", "p5123456@-1"};
        int[] places = {0, 3, 0, 1, 0, 1, 1, 2, 2, 7, 8, 9, 8, 9,
            9, 9, 9, 11, 12, 11, 12, 12,
            11, 14, 11, 20, 10, 11, 13, 1, 2, 5, 9, 9, 0, 0,
            11, 11, 1, 9};
        for (int k = 0; k < texts.length; k++) {
            CaughtHand x = with("s5123456@2,p1000000@3;r");
            x.dry(6, 1);
            x.days(2);
            String before = Due.stateOf(x);
            unchanged("office of '" + texts[k] + "'", x, before, Due.officeOf(x, texts[k]), -20 - places[k]);
            due.is("weather stays", x.weather(1), 1);
            due.is("the tape is empty", x.type('p'), 1);
        }
    }

    private static void promise11Full() {
        StringBuilder text = new StringBuilder();
        for (int k = 0; k < 7; k++) {
            text.append(k == 0 ? "" : ",").append("p").append(k).append("00000").append(k).append('@').append(k);
        }
        CaughtHand x = new CaughtHand();
        due.is("seven", Due.officeOf(x, text.toString()), 7);
        due.is("an eighth", Due.officeOf(x, text + ",p0000000@7"), -20 - 76);
        due.is("seven and weather", Due.officeOf(x, text + ";r"), 7);
        due.is("full", x.person(0, 0, 0, 7), FULL);
        due.is("a smaller one", Due.officeOf(x, "p0000000@7"), 1);
        due.is("chairs free again", x.at(0), NONE);
        due.is("others are gone", x.of(1, 0), BAD);
    }

    private static void promise12() {
        CaughtHand x = with("p0000000@0,p1111111@1,p2222222@2;r.rr");
        x.dry(7, 1);
        x.lasting(6);
        x.days(3);
        int[] counts = {3, 3, 1, 128, 6, 3, 3};
        for (int what = 0; what <= 6; what++) {
            due.is("count " + what, x.count(what), counts[what]);
        }
        due.is("count", x.count(-1), BAD);
        due.is("count", x.count(7), BAD);
        due.is("count", x.count(GREATEST), BAD);
        x.days(12);
        due.is("eight at most", x.count(5), 8);
    }

    private static void promise13() {
        CaughtHand x = with("p0012345@0,s7111111@1,l5222222@2,t9333333@3,p8012340@5;r.rrr..rr.");
        String before = Due.stateOf(x);
        unchanged("days", x, before, x.days(0), BAD);
        unchanged("days", x, before, x.days(61), BAD);
        unchanged("days", x, before, x.days(-1), BAD);
        unchanged("days", x, before, x.days(GREATEST), BAD);
        due.is("days", x.days(1), 2);
        due.is("of the least place", x.of(0, 4), 112345);
        due.is("of the stronger", x.of(2, 4), 422222);
        due.is("on its own", x.of(4, 4), 12340);
        due.is("dry day", x.days(1), 0);
        due.is("many: four of the first, whose second stroke is 1 already, five of the left one", x.days(8), 9);
        due.is("all of it", x.of(0, 4), 111111);
        due.is("day", x.count(1), 10);
        due.is("each may be undone", x.count(5), 8);
        due.is("60", x.days(60) >= 0 ? 1 : 0, 1);
        due.is("day", x.count(1), 70);
    }

    private static void promise13Kinds() {
        // all at once, by what was written then: the row of 1, 2, 3 moves a place a day
        CaughtHand x = with("p1100000@0,p2200000@1,p3300000@2;rr");
        x.days(1);
        due.is("of what was written then", x.of(0, 4), 200000);
        due.is("of what was written then", x.of(1, 4), 300000);
        x.days(1);
        due.is("a day behind", x.of(0, 4), 300000);
        CaughtHand y = with("l1000000@0,l2000000@1,p9777777@2;rr");
        y.days(1);
        due.is("a left one of a left one", y.of(0, 4), 700000);
        due.is("alike already", y.of(1, 4), 0);
        // the stroke is its own again ahead of the taking, and is taken again the same day
        CaughtHand z = with("p0000000@0,p1100000@1;rr");
        z.lasting(1);
        due.is("taken", z.days(1), 1);
        due.is("taken again", z.days(1), 1);
        due.is("till", z.till(0, 0), 2);
        due.is("a dry day", z.days(1), 0);
        due.is("its own", z.of(0, 4), 0);
        CaughtHand t = with("p0000000@0,t1100000@1,s0000000@4,s2200000@5,l0000000@6;r");
        t.lasting(5);
        t.days(1);
        due.is("of a teacher", t.till(0, 0), 17);
        due.is("of a strong one", t.till(2, 0), 10);
        due.is("a left one of a strong one", t.till(4, 0), 10);
        due.is("a left one takes 7 less", t.of(4, 4), 500000);
        due.is("a teacher takes nothing", t.of(1, 5), 0);
        CaughtHand same = with("p1000000@0,p2100000@1,t9000000@2;rr");
        same.days(2);
        due.is("taken that is like its own", same.of(0, 4), 0);
        due.is("is so till a day", same.of(0, 5), 1);
        due.is("is so till a day", same.till(0, 0), 15);
    }

    private static void promise13Whom() {
        CaughtHand even = with("p0000000@1,p5222222@0,p5111111@2;r");
        due.is("of like ones the least", even.writes(0, 1), 200000);
        CaughtHand swapped = with("p0000000@1,p5222222@2,p5111111@0;r");
        due.is("of like ones the least", swapped.writes(0, 1), 200000);
        CaughtHand third = with("p5111111@0,p5222222@2,p0000000@1;r");
        due.is("of like ones the least", third.writes(2, 1), 100000);
        CaughtHand more = with("p0000000@1,p5222222@0,p6111111@2;r");
        due.is("of most strength", more.writes(0, 1), 100000);
        due.is("not with a dry chair", more.dry(2, 1), 0);
        due.is("of the other", more.writes(0, 1), 200000);
        CaughtHand like = with("p5000000@1,p5222222@0;r");
        due.is("not of like strength", like.writes(0, 1), 0);
        CaughtHand far = with("p0000000@1,p5222222@3;r");
        due.is("not from two chairs on", far.writes(0, 1), 0);
        CaughtHand ends = with("p0000000@0,p5222222@7;r");
        due.is("no circle", ends.writes(0, 1), 0);
        // nothing to take of the strongest: the other one is not looked at
        CaughtHand done = with("p0111111@1,p5222222@0,p6111111@2;r");
        due.is("only the strongest", done.writes(0, 1), 111111);
    }

    private static void promise13Full() {
        CaughtHand x = new CaughtHand();
        for (int k = 0; k < 166; k++) {
            x.days(60);
        }
        due.is("day", x.count(1), 9960);
        String before = Due.stateOf(x);
        unchanged("full", x, before, x.days(40), FULL);
        unchanged("drift full", x, before, x.drift(40), FULL);
        unchanged("bad ahead of full", x, before, x.days(61), BAD);
        due.is("draw stays", x.seed(1), 1);
        due.is("to the last", x.days(39), 0);
        due.is("day", x.count(1), 9999);
        due.is("full", x.days(1), FULL);
        due.is("full", x.drift(1), FULL);
        due.is("undone", x.undo(), 7);
        due.is("again", x.drift(1), 0);
        due.is("day", x.count(1), 9999);
        x.person(0, 0, 0, 0);
        due.is("foretold all the same", x.writes(0, 60), 0);
    }

    private static void promise14() {
        long draw = 1;
        CaughtHand x = with("p0000000@0,p9123456@1");
        int taken = 0;
        for (int k = 0; k < 40; k++) {
            draw = (draw * 1103515245L + 12345L) & 0x7fffffffL;
            boolean wet = (draw >> 16 & 1) == 1;
            int due1 = wet && taken < 6 ? 1 : 0;
            if (k < 13) {
                taken += due1;
                due.is("drift " + k, x.drift(1), due1);
            } else {
                x.drift(1);
            }
        }
        due.is("draw", x.seed(1), draw);
        CaughtHand y = with("p0000000@0,p9123456@1;rrrrrrrrrrrrrrrrrrrrrrrrrrrrrr");
        String before = Due.stateOf(y);
        unchanged("drift", y, before, y.drift(0), BAD);
        unchanged("drift", y, before, y.drift(61), BAD);
        unchanged("drift", y, before, y.drift(LEAST), BAD);
        due.is("draw stays", y.seed(0), 1);
        due.is("no wet day", y.drift(1), 0);
        due.is("draw", y.seed(0), 12345);
        due.is("many", y.drift(60) >= 0 ? 1 : 0, 1);
        due.is("day", y.count(1), 61);
        due.is("known", y.count(5), 8);
        int now = y.seed(5);
        y.seed(now);
        y.undo();
        due.is("draw stays", y.seed(1), now);
    }

    private static void promise15() {
        CaughtHand x = with("p0000000@0,p9123456@1,p1777777@2;rrrr");
        due.is("none", x.undo(), NONE);
        String start = Due.stateOf(x);
        x.days(1);
        String one = Due.stateOf(x);
        x.days(2);
        due.is("undo", x.undo(), 2);
        due.is("day", x.count(1), 2);
        due.is("undo", x.undo(), 1);
        due.is("known", x.count(5), 1);
        CaughtHand y = with("p0000000@0,p9123456@1,p1777777@2;rrrr");
        y.days(3);
        due.is("two more", y.undo(), 2);
        due.is("one more", y.undo(), 1);
        due.is("as behind one", Due.stateOf(y).equals(one) ? 1 : 0, 1);
        due.is("none more", y.undo(), 0);
        due.is("as at the start", Due.stateOf(y).equals(start) ? 1 : 0, 1);
        due.is("none", y.undo(), NONE);
        y.days(1);
        y.sit(0, 7);
        y.dry(3, 1);
        y.weather(7);
        y.lasting(2);
        due.is("undo", y.undo(), 0);
        due.is("seats stay", y.of(0, 3), 7);
        due.is("dry stays", y.count(3), 8);
        due.is("weather stays", y.weather(0), 7);
        due.is("lasting stays", y.count(4), 2);
        due.is("written is undone", y.of(0, 4), 0);
        CaughtHand z = new CaughtHand();
        z.days(20);
        for (int k = 7; k >= 0; k--) {
            due.is("undo", z.undo(), k);
        }
        due.is("older ones are lost", z.undo(), NONE);
        due.is("day", z.count(1), 12);
        z.days(3);
        Due.officeOf(z, "x");
        due.is("a fault leaves them", z.count(5), 3);
        Due.officeOf(z, "p0000000@0");
        due.is("an office leaves none", z.undo(), NONE);
    }

    private static void promise16() {
        CaughtHand x = new CaughtHand();
        due.is("seed", x.seed(0), 1);
        due.is("seed", x.seed(GREATEST), 0);
        due.is("seed", x.seed(-1), BAD);
        due.is("seed", x.seed(LEAST), BAD);
        due.is("it stays", x.seed(42), GREATEST);
        x.drift(1);
        due.is("drawn", x.seed(1), (42L * 1103515245L + 12345L) & 0x7fffffffL);
    }

    private static void promise17() {
        CaughtHand x = with("p0012345@0,s7111111@1,l5222222@2,t9333333@3;r.rrr..rr.");
        CaughtHand y = with("p0012345@0,s7111111@1,l5222222@2,t9333333@3;r.rrr..rr.");
        String before = Due.stateOf(x);
        for (int n = 0; n <= 60; n++) {
            for (int person = 0; person < 4; person++) {
                due.is("writes " + person + " " + n, x.writes(person, n), y.of(person, 4));
            }
            y.days(1);
        }
        unchanged("writes", x, before, x.writes(0, -1), BAD);
        due.is("writes", x.writes(0, 61), BAD);
        due.is("writes", x.writes(-1, 0), BAD);
        due.is("writes", x.writes(4, 0), BAD);
        due.is("writes", x.writes(GREATEST, GREATEST), BAD);
    }

    private static void promise18() {
        CaughtHand x = with("p0012345@0,s7111111@1,p0000000@4,p1000000@5;..r");
        due.is("behind the third day", x.cheque(0), 3);
        due.is("never", x.cheque(1), NONE);
        due.is("alike", x.cheque(2), NONE);
        x.days(3);
        due.is("now", x.cheque(0), 0);
        due.is("cheque", x.cheque(-1), BAD);
        due.is("cheque", x.cheque(4), BAD);
        CaughtHand y = with("p0000000@0,p1100000@1;.............................r");
        due.is("on day 29", y.cheque(0), 30);
        y.lasting(1);
        due.is("its own again later is of no matter", y.cheque(0), 30);
        // by one wet day of thirty a stroke comes down one chair
        CaughtHand far = with("p1000000@0,s2000000@1,s3000000@2,t4100000@3;r");
        far.lasting(30);
        due.is("behind 61 days", far.cheque(0), NONE);
        due.is("behind 31 days", far.cheque(1), 31);
        far.days(1);
        due.is("behind 60 days", far.cheque(0), 60);
    }

    private static void promise19() {
        CaughtHand x = with("p0012345@0,t9111111@1,p0000000@5;rrrrrr");
        due.is("itself", x.out(0, 6, 0), 0);
        due.is("five", x.out(0, 6, 1), 1);
        due.is("five", x.out(0, 5, 1), 0);
        due.is("the own 1 stays", x.out(0, 1, 6), 0);
        due.is("only that and the other's 0", x.out(0, 2, 6), 1);
        due.is("another one's hand", x.out(2, 6, 6), 0);
        due.is("by others, too", x.out(1, 6, 6), 0);
        due.is("out", x.out(0, 0, 0), BAD);
        due.is("out", x.out(0, 7, 0), BAD);
        due.is("out", x.out(0, 1, -1), BAD);
        due.is("out", x.out(0, 1, 61), BAD);
        due.is("out", x.out(3, 1, 0), BAD);
        due.is("out", x.out(-1, 1, 0), BAD);
    }

    private static void promise20() {
        CaughtHand x = with("p0000000@0,p5111111@2,p7222222@4;rrrrrrrr");
        String before = Due.stateOf(x);
        due.is("none needed", x.seats(0, 0, 0, 3, 0), 0);
        due.is("no first", x.seats(0, 0, 0, 3, 1), NONE);
        due.is("no second", x.seats(0, 0, 0, 3, 2), NONE);
        due.is("one", x.seats(0, 0, 1, 1, 0), 1);
        due.is("the first such", x.seats(0, 0, 1, 1, 1), 1);
        due.is("no second", x.seats(0, 0, 1, 1, 2), NONE);
        due.is("another stroke", x.seats(0, 0, 2, 1, 1), 3);
        due.is("not on that day", x.seats(0, 3, 2, 3, 0), NONE);
        due.is("on the next", x.seats(0, 3, 2, 4, 0), 1);
        due.is("no such stroke", x.seats(0, 0, 7, 60, 0), NONE);
        due.is("no such stroke", x.seats(0, 0, 7, 60, 1), NONE);
        due.is("no such stroke", x.seats(0, 0, 7, 60, 2), NONE);
        due.is("the strongest takes nothing", x.seats(2, 0, 0, 5, 0), NONE);
        due.is("nothing changed", Due.stateOf(x).equals(before) ? 1 : 0, 1);
        // one needs a neighbour and to leave a dry chair, and that neighbour sits alone on the far end
        CaughtHand y = with("p0000000@0,p5111111@7;r");
        y.dry(0, 1);
        y.dry(6, 1);
        due.is("two", y.seats(0, 0, 1, 1, 0), 2);
        due.is("first", y.seats(0, 0, 1, 1, 1), 1);
        due.is("second", y.seats(0, 0, 1, 1, 2), 23);
        seatsByLaterExchanges();
        due.is("vain of one stroke", x.seats(0, 0, 7, 3, 0), NONE);
        due.is("is not vain of another", x.seats(0, 0, 0, 3, 0), 0);
        due.is("seats", x.seats(-1, 0, 0, 0, 0), BAD);
        due.is("seats", x.seats(3, 0, 0, 0, 0), BAD);
        due.is("seats", x.seats(0, -1, 0, 0, 0), BAD);
        due.is("seats", x.seats(0, 6, 0, 0, 0), BAD);
        due.is("seats", x.seats(0, 0, -1, 0, 0), BAD);
        due.is("seats", x.seats(0, 0, 8, 0, 0), BAD);
        due.is("seats", x.seats(0, 0, 0, -1, 0), BAD);
        due.is("seats", x.seats(0, 0, 0, 61, 0), BAD);
        due.is("seats", x.seats(0, 0, 0, 0, -1), BAD);
        due.is("seats", x.seats(0, 0, 0, 0, 3), BAD);
    }

    private static void seatsByLaterExchanges() {
        String[] texts = {"s1111111@2,p2222222@1,s1333333@4,s7444444@7;rrr", "s3111111@6,p9222222@5,l6333333@4,s5444444@7;rrr",
            "s4111111@7,s3222222@2,l9333333@6,l0444444@0;rrr", "s1111111@1,s2222222@0,p7333333@2,l0444444@3;rrr"};
        int[][] told = {{231, 2, 11, 20}, {76, 4, 6, 15}, {231, 3, 30, 39}, {38, 3, 11, 20}};
        for (int k = 0; k < texts.length; k++) {
            CaughtHand x = with(texts[k]);
            for (int chair = 0; chair < 8; chair++) {
                x.dry(chair, told[k][0] >> chair & 1);
            }
            due.is("two", x.seats(0, 0, told[k][1], 1, 0), 2);
            due.is("first", x.seats(0, 0, told[k][1], 1, 1), told[k][2]);
            due.is("second", x.seats(0, 0, told[k][1], 1, 2), told[k][3]);
        }
    }

    private static void promise21() {
        CaughtHand x = with("p0012345@0,t9112345@1,p0112345@5;r");
        due.is("now", x.who(112345, 0), 6);
        due.is("now", x.who(12345, 0), 1);
        due.is("behind a day", x.who(112345, 1), 7);
        due.is("nobody", x.who(12345, 1), 0);
        due.is("who", x.who(-1, 0), BAD);
        due.is("who", x.who(777778, 0), BAD);
        due.is("who", x.who(18, 0), BAD);
        due.is("who", x.who(900000, 0), BAD);
        due.is("who", x.who(0, -1), BAD);
        due.is("who", x.who(0, 61), BAD);
        due.is("of no people", new CaughtHand().who(0, 60), 0);
    }

    private static void promise22() {
        CaughtHand x = with("p0012345@0,t9112345@1;rrrrrrrr");
        String before = Due.stateOf(x);
        due.is("none", x.likely(0, 112345, 0, 0), 0);
        due.is("none", x.likely(0, 112345, 0, 1), 1);
        due.is("sure", x.likely(0, 12345, 0, 0), 1);
        due.is("sure", x.likely(0, 12345, 0, 1), 1);
        due.is("half", x.likely(0, 112345, 1, 0), 1);
        due.is("half", x.likely(0, 112345, 1, 1), 2);
        due.is("most", x.likely(0, 112345, 8, 0), 255);
        due.is("most", x.likely(0, 112345, 8, 1), 256);
        due.is("sure", x.likely(1, 112345, 8, 0), 1);
        due.is("sure", x.likely(1, 112345, 8, 1), 1);
        due.is("none", x.likely(1, 7, 8, 0), 0);
        due.is("none", x.likely(1, 7, 8, 1), 1);
        unchanged("likely", x, before, x.likely(0, 8, 0, 0), BAD);
        due.is("likely", x.likely(0, -1, 0, 0), BAD);
        due.is("likely", x.likely(0, 0, -1, 0), BAD);
        due.is("likely", x.likely(0, 0, 9, 0), BAD);
        due.is("likely", x.likely(0, 0, 0, -1), BAD);
        due.is("likely", x.likely(0, 0, 0, 2), BAD);
        due.is("likely", x.likely(2, 0, 0, 0), BAD);
        due.is("likely", x.likely(-1, 0, 0, 0), BAD);
        CaughtHand moved = with("p0000000@0,s9123456@1");
        moved.sit(0, 7);
        due.is("sitting elsewhere now", moved.likely(0, 0, 1, 0), 1);
        due.is("sitting elsewhere now", moved.likely(0, 0, 1, 1), 1);
        CaughtHand brief = with("p0000000@0,p9123456@1");
        brief.lasting(1);
        due.is("just n days", brief.likely(0, 100000, 1, 0), 1);
        due.is("just n days", brief.likely(0, 100000, 1, 1), 2);
        due.is("the last of them wet", brief.likely(0, 100000, 3, 1), 2);
        due.is("the last of them not", brief.likely(0, 0, 3, 0), 1);
        CaughtHand y = with("p0000000@0,s9123456@1");
        due.is("three of four days", y.likely(0, 123000, 4, 0), 1);
        due.is("three of four days", y.likely(0, 123000, 4, 1), 4);
        due.is("two of four days", y.likely(0, 120000, 4, 0), 3);
        due.is("two of four days", y.likely(0, 120000, 4, 1), 8);
    }

    private static void promise23() {
        CaughtHand x = with("p0012345@0,t9112345@1,p0112340@5,p0000000@7;r");
        due.is("of like ones the least", x.most(0, 0, 0), 0);
        due.is("by two", x.most(0, 0, 1), 2);
        due.is("then the teacher's", x.most(0, 1, 0), 1);
        due.is("by three", x.most(0, 1, 1), 3);
        due.is("place 5", x.most(5, 0, 0), 0);
        due.is("place 5", x.most(5, 0, 1), 2);
        due.is("most", x.most(-1, 0, 0), BAD);
        due.is("most", x.most(6, 0, 0), BAD);
        due.is("most", x.most(0, -1, 0), BAD);
        due.is("most", x.most(0, 61, 0), BAD);
        due.is("most", x.most(0, 0, -1), BAD);
        due.is("most", x.most(0, 0, 2), BAD);
        CaughtHand none = new CaughtHand();
        due.is("no people", none.most(0, 0, 0), NONE);
        due.is("no people", none.most(5, 60, 1), NONE);
        due.is("bad ahead of none", none.most(6, 60, 1), BAD);
        CaughtHand one = with("l3765432@4");
        due.is("itself", one.most(3, 9, 0), 0);
        due.is("itself", one.most(3, 9, 1), 1);
    }

    private static void promise24() {
        CaughtHand x = with("p0012345@4,s9111111@3,p0000000@7;r");
        due.is("now", x.dryOut(0, 0), 0);
        due.is("the least chair", x.dryOut(0, 1), 8);
        due.is("nothing beside", x.dryOut(2, 60), 0);
        due.is("the strongest", x.dryOut(1, 60), 0);
        String before = Due.stateOf(x);
        unchanged("dryOut", x, before, x.dryOut(-1, 0), BAD);
        due.is("dryOut", x.dryOut(3, 0), BAD);
        due.is("dryOut", x.dryOut(0, -1), BAD);
        due.is("dryOut", x.dryOut(0, 61), BAD);
        x.dry(3, 1);
        due.is("dry already", x.dryOut(0, 60), 0);
        x.dry(3, 0);
        x.days(1);
        due.is("too late", x.dryOut(0, 0), NONE);
        due.is("too late", x.dryOut(0, 60), NONE);
        CaughtHand both = with("p0000000@4,s9111111@3,s9222222@5;r");
        due.is("its own chair", both.dryOut(0, 5), 16);
        CaughtHand back = with("p0000000@0,p9100000@1;r");
        back.lasting(1);
        due.is("behind each day, not the last alone", back.dryOut(0, 2), 1);
        CaughtHand chain = with("p1100000@2,p2100000@1,p3200000@0;rr");
        due.is("not at first", chain.dryOut(0, 1), 0);
        due.is("the far one will do", chain.dryOut(0, 2), 1);
    }

    private static void promise25() {
        CaughtHand x = with("p0000000@7,t9111111@2,t8111222@4;rrrrrrrrr");
        due.is("beside it, no other by", x.forger(0, 1, 3, 0), 1);
        due.is("strokes", x.forger(0, 1, 3, 1), 3);
        due.is("of the stronger one by it", x.forger(0, 1, 9, 1), 6);
        due.is("beside the weaker alone", x.forger(0, 2, 9, 0), 5);
        due.is("strokes", x.forger(0, 2, 9, 1), 6);
        due.is("nothing to get", x.forger(1, 2, 9, 0), 0);
        due.is("strokes it has", x.forger(1, 2, 9, 1), 3);
        due.is("one alike", x.forger(0, 0, 0, 0), BAD);
        due.is("forger", x.forger(-1, 0, 0, 0), BAD);
        due.is("forger", x.forger(3, 0, 0, 0), BAD);
        due.is("forger", x.forger(0, 3, 0, 0), BAD);
        due.is("forger", x.forger(0, -1, 0, 0), BAD);
        due.is("forger", x.forger(0, 1, -1, 0), BAD);
        due.is("forger", x.forger(0, 1, 61, 0), BAD);
        due.is("forger", x.forger(0, 1, 0, -1), BAD);
        due.is("forger", x.forger(0, 1, 0, 2), BAD);
        due.is("nobody moved", x.of(0, 3), 7);
        CaughtHand full = with("p0000000@0,t9111111@2,t8222222@1,p9000000@3,p9000000@4,p9000000@5,p9000000@6;r");
        due.is("occupied ones are none", full.forger(0, 1, 1, 0), 0);
        due.is("nothing", full.forger(0, 1, 1, 1), 0);
        CaughtHand own = with("p0000000@1,t9111111@0;r");
        own.days(1);
        own.weather(2);
        due.is("by its own hand, now written", own.forger(0, 1, 0, 1), 1);
        due.is("its own chair", own.forger(0, 1, 1, 0), 1);
    }

    private static void promise26() {
        CaughtHand x = with("p0111222@0,p0333222@1,p0111333@2,p0333333@3;r");
        due.is("pairs", x.two(111333, 0), 1);
        due.is("one alone would do", x.two(111333, 1), 8 * 0 + 3);
        due.is("pairs", x.two(131222, 0), 3);
        due.is("first", x.two(131222, 1), 1);
        due.is("pairs", x.two(131232, 0), 2);
        due.is("first", x.two(131232, 1), 3);
        due.is("none", x.two(777777, 0), 0);
        due.is("none", x.two(777777, 1), NONE);
        due.is("several", with("p0111000@0,p0000111@1,p0000111@2").two(111111, 0), 2);
        due.is("the first", with("p0111000@0,p0000111@1,p0000111@2").two(111111, 1), 1);
        due.is("all but the first stroke", x.two(711333, 0), 0);
        due.is("all but the last stroke", x.two(131227, 0), 0);
        due.is("of 0", with("p0000111@0,p0111000@1").two(0, 0), 1);
        due.is("two", x.two(8, 0), BAD);
        due.is("two", x.two(-1, 0), BAD);
        due.is("two", x.two(0, -1), BAD);
        due.is("two", x.two(0, 2), BAD);
        due.is("no people", new CaughtHand().two(0, 0), 0);
        due.is("no people", new CaughtHand().two(0, 1), NONE);
        CaughtHand taken = with("p0000000@0,p9110000@1,p0001111@7;r");
        taken.days(1);
        due.is("by hands of their own", taken.two(110000, 0), 0);
        due.is("by hands of their own", taken.two(111111, 1), 8 + 2);
    }

    private static void promise27() {
        due.is("none", new CaughtHand().tree(), 0);
        due.is("one", with("p0123456@0").tree(), 0);
        due.is("two", with("p0123456@0,p0123465@1").tree(), 2);
        due.is("six", with("p0000000@0,p0111111@1").tree(), 6);
        due.is("alike", with("p0111111@0,p0111111@1").tree(), 0);
        due.is("by the middle", with("p0000000@0,p0111111@1,p0000111@2").tree(), 6);
        due.is("the nearest first", with("p0000000@0,p0000111@1,p0111111@2").tree(), 6);
        due.is("a row", with("p0000000@0,p0111100@1,p0110000@2,p0111111@3,p0000001@4").tree(), 7);
        due.is("a star", with("p0000001@0,p0000010@1,p0000100@2,p0000000@3").tree(), 3);
        due.is("two pairs", with("p0000000@0,p0111111@1,p0000001@2,p0111110@3").tree(), 1 + 1 + 5);
        CaughtHand x = with("p0000000@0,p9111111@1;rrr");
        x.days(3);
        due.is("of hands of their own", x.tree(), 6);
    }

    private static void promise28() {
        CaughtHand x = with("p0123456@0,p0123450@1,p0120000@2,p0700000@3;r");
        due.is("six", x.signature(0), 6);
        due.is("six", x.signature(1), 6);
        due.is("three", x.signature(2), 3);
        due.is("one", x.signature(3), 1);
        due.is("alone", with("p0123456@0").signature(0), 1);
        due.is("none", with("p0123456@0,p0123456@5").signature(1), NONE);
        due.is("signature", x.signature(-1), BAD);
        due.is("signature", x.signature(4), BAD);
        CaughtHand y = with("p0000000@0,p9100000@1,p0700000@2;r");
        due.is("one", y.signature(1), 1);
        y.days(1);
        due.is("of what is written now", y.signature(1), NONE);
        due.is("its own strokes, whoever writes them", y.signature(0), 1);
    }

    private static void promise29() {
        CaughtHand x = with("p0000000@0,p9123456@1,p1777777@2;rrrr");
        x.days(2);
        String before = Due.stateOf(x);
        unchanged("image", x, before, x.image(), 1);
        x.days(3);
        due.is("image again", x.image(), 1);
        x.undo();
        x.restore();
        due.is("the latest image", x.count(1), 5);
        CaughtHand none = new CaughtHand();
        due.is("of nothing", none.image(), 1);
        none.person(0, 0, 0, 0);
        due.is("restore", none.restore(), 1);
        due.is("nothing", none.count(0), 0);
        due.is("chair", none.at(0), NONE);
    }

    private static void promise30() {
        CaughtHand x = with("p0000000@0,p9123456@1,p1777777@2;rrrr");
        due.is("none", x.restore(), NONE);
        x.lasting(4);
        x.dry(5, 1);
        x.seed(99);
        x.days(2);
        x.image();
        String before = Due.stateOf(x);
        x.sheet(0, 0, 3);
        x.type('p');
        x.sit(0, 6);
        x.dry(1, 1);
        x.lasting(9);
        x.weather(0);
        x.drift(9);
        x.person(0, 0, 0, 7);
        due.is("restore", x.restore(), 1);
        due.is("as it was", Due.stateOf(x).equals(before) ? 1 : 0, 1);
        due.is("the draw", x.seed(99), 99);
        due.is("the weather", x.weather(15), 15);
        due.is("the tape is as it is", x.type('p'), 2);
        due.is("sheets are as they are", x.drop(0), 3);
        due.is("undo", x.undo(), 1);
        due.is("undo", x.undo(), 0);
        due.is("writes its own", x.of(0, 4), 0);
        due.is("undo", x.undo(), NONE);
        x.office();
        Due.officeOf(x, "p0111111@7");
        due.is("an image outlives an office", x.restore(), 1);
        due.is("as it was", Due.stateOf(x).equals(before) ? 1 : 0, 1);
        due.is("days known", x.count(5), 2);
        CaughtHand z = with("p0000000@0,p9123456@1,p1777777@2;rrrrrrrrrrrrrrrrrrrrrrrrrrrrrr");
        z.days(5);
        z.image();
        z.restore();
        String[] undone = new String[6];
        for (int k = 5; k >= 0; k--) {
            undone[k] = Edges.handsOf(z);
            z.undo();
        }
        z.days(9);
        z.sit(0, 7);
        z.days(9);
        due.is("restore", z.restore(), 1);
        for (int k = 5; k >= 0; k--) {
            due.is("as it was " + k + " days on", Edges.handsOf(z).equals(undone[k]) ? 1 : 0, 1);
            z.undo();
        }
    }

    private static void promise31() {
        CaughtHand x = with("p0000000@0,p9100000@1;r");
        String before = Due.stateOf(x);
        x.sheet(0, 2, 24);
        x.item(0, 2, 0, 5);
        x.item(0, 2, 1, 100000);
        due.is("5 days on still taken", x.lasted(0, 0, 2, 0, 1), allFrom(5));
        x.item(0, 2, 2, 8);
        x.item(0, 2, 3, 0);
        due.is("and then not", x.lasted(0, 0, 2, 0, 2), allFrom(5) & ~allFrom(8));
        due.is("from an item on", x.lasted(0, 0, 2, 2, 1), allTo(7));
        x.item(0, 2, 22, 0);
        x.item(0, 2, 23, 0);
        due.is("up to the last item", x.lasted(0, 0, 2, 22, 1), 0x7ffffffe);
        x.item(0, 2, 23, 1);
        due.is("never", x.lasted(0, 0, 2, 22, 1), 0);
        due.is("nothing changed", Due.stateOf(x).equals(before) ? 1 : 0, 1);
        CaughtHand y = with("p0000000@0,s9123456@1,t9654321@7;.r..r.r");
        y.days(2);
        y.sheet(0, 2, 6);
        int[] papers = {4, 121000, 20, 121000, 60, 777777};
        for (int k = 0; k < 6; k++) {
            y.item(0, 2, k, papers[k]);
        }
        due.is("papers of two days", y.lasted(0, 0, 2, 0, 2), 0);
        due.is("60 days on, all 7", y.lasted(0, 0, 2, 4, 1), 0);
        for (int l = 1; l <= 30; l++) {
            y.image();
            y.lasting(l);
            y.item(0, 2, 1, y.writes(0, 4));
            y.item(0, 2, 3, y.writes(0, 20));
            y.item(0, 2, 5, y.writes(0, 60));
            y.restore();
            due.is("by what it writes with " + l, y.lasted(0, 0, 2, 0, 3) >> l & 1, 1);
        }
        x.days(1);
        x.item(0, 2, 0, 14);
        x.item(0, 2, 1, 0);
        due.is("what was taken stays as it is", x.lasted(0, 0, 2, 0, 1), 0x7ffffffe);
        x.item(0, 2, 0, 13);
        x.item(0, 2, 1, 0);
        due.is("what was taken stays as it is", x.lasted(0, 0, 2, 0, 1), 0);
    }

    /** The set of all L from the least on by which a stroke of day 0 is written behind n days: it is given back on day L. */
    private static int allFrom(int n) {
        int set = 0;
        for (int l = 1; l <= 30; l++) {
            set |= l >= n ? 1 << l : 0;
        }
        return set;
    }

    private static int allTo(int n) {
        return 0x7ffffffe & ~allFrom(n + 1);
    }

    private static void promise31Refused() {
        CaughtHand x = with("p0000000@0,p9100000@1;r");
        due.is("null", x.lasted(0, 0, 2, -1, 1), NULL);
        x.sheet(0, 2, 16);
        due.is("8 papers", x.lasted(0, 0, 2, 0, 8), 0x7ffffffe);
        due.is("bad person", x.lasted(-1, 0, 2, 0, 1), BAD);
        due.is("bad person", x.lasted(2, 0, 2, 0, 1), BAD);
        due.is("bad sheet", x.lasted(0, -1, 2, 0, 1), BAD);
        due.is("bad sheet", x.lasted(0, 4, 2, 0, 1), BAD);
        due.is("bad lane", x.lasted(0, 0, -1, 0, 1), BAD);
        due.is("bad lane", x.lasted(0, 0, 4, 0, 1), BAD);
        due.is("no papers", x.lasted(0, 0, 2, 0, 0), BAD);
        due.is("9 papers", x.lasted(0, 0, 2, 0, 9), BAD);
        due.is("cast ahead of index", x.lasted(0, 0, 3, 99, 1), CAST);
        due.is("index", x.lasted(0, 0, 2, -1, 1), INDEX);
        due.is("index", x.lasted(0, 0, 2, 1, 8), INDEX);
        due.is("index", x.lasted(0, 0, 2, 15, 1), INDEX);
        due.is("index", x.lasted(0, 0, 2, GREATEST, 1), INDEX);
        int[][] not = {{61, 0}, {-1, 0}, {0, 8}, {0, 777778}, {0, -1}, {0, 1000000}, {GREATEST, 0}, {0, LEAST}};
        for (int[] pair : not) {
            x.item(0, 2, 0, pair[0]);
            x.item(0, 2, 1, pair[1]);
            due.is("not " + pair[0] + " " + pair[1], x.lasted(0, 0, 2, 0, 1), NOT);
            due.is("not of a later one", x.lasted(0, 0, 2, 0, 8), NOT);
            due.is("not reached", x.lasted(0, 0, 2, 2, 7), 0x7ffffffe);
        }
        due.is("index ahead of not", x.lasted(0, 0, 2, 10, 8), INDEX);
        x.item(0, 2, 0, 60);
        x.item(0, 2, 1, 0);
        x.item(0, 2, 14, 0);
        x.item(0, 2, 15, 9);
        due.is("the last is not", x.lasted(0, 0, 2, 0, 8), NOT);
        x.sheet(1, 3, 2);
        x.item(1, 3, 0, 1L << 32);
        due.is("a long is taken whole", x.lasted(0, 1, 3, 0, 1), NOT);
        x.item(1, 3, 0, 0);
        x.item(1, 3, 1, (1L << 40) + 100000);
        due.is("a long is taken whole", x.lasted(0, 1, 3, 0, 1), NOT);
        x.sheet(2, 0, 2);
        due.is("of bytes", x.lasted(0, 2, 0, 0, 1), 0x7ffffffe);
    }

    private static void promise32() {
        CaughtHand x = with("p0000000@0,p9765432@1;rrrrrr");
        String before = Due.stateOf(x);
        due.is("null", x.film(0, 1, 0, 2, -1), NULL);
        x.sheet(0, 2, 24);
        due.is("film", x.film(0, 24, 0, 2, 0), 24);
        x.sheet(1, 2, 2);
        int[] rows = {700000, 760000, 765000, 765400, 765430, 765432};
        for (int k = 0; k < 6; k++) {
            due.is("writes", x.writes(0, k + 1), rows[k]);
            x.item(1, 2, 0, k + 1);
            x.copy(0, k, 1, 1, 1);
            due.is("frame " + k, x.lasted(0, 1, 2, 0, 1) & allFrom(6), allFrom(6));
        }
        due.is("nothing changed", Due.stateOf(x).equals(before) ? 1 : 0, 1);
        x.days(4);
        x.writes(0, 40);
        due.is("from now on", x.film(0, 2, 0, 2, 3), 2);
        x.item(1, 2, 0, 2);
        x.copy(0, 4, 1, 1, 1);
        due.is("all of it two days on", x.writes(0, 2), 765432);
        due.is("is the second frame, but for a lasting of 1", x.lasted(0, 1, 2, 0, 1), 0x7ffffffc);
        due.is("from 23", x.film(0, 1, 0, 2, 23), 1);
        due.is("index", x.film(0, 2, 0, 2, 23), INDEX);
        due.is("index", x.film(0, 1, 0, 2, -1), INDEX);
        due.is("index", x.film(0, 1, 0, 2, GREATEST), INDEX);
        due.is("cast ahead of index", x.film(0, 1, 0, 1, 99), CAST);
        due.is("film", x.film(-1, 1, 0, 2, 0), BAD);
        due.is("film", x.film(2, 1, 0, 2, 0), BAD);
        due.is("film", x.film(0, 0, 0, 2, 0), BAD);
        due.is("film", x.film(0, 25, 0, 2, 0), BAD);
        due.is("film", x.film(0, 1, 4, 2, 0), BAD);
        due.is("film", x.film(0, 1, -1, 2, 0), BAD);
        due.is("film", x.film(0, 1, 0, 4, 0), BAD);
        due.is("film", x.film(0, 1, 0, -1, 0), BAD);
        // the lowest bits of 760000 are 192 as a byte and -26432 as a short; 700000 as a byte is 96
        CaughtHand y = with("p0000000@0,p9000050@1;rrrr");
        y.sheet(3, 0, 4);
        due.is("bytes", y.film(0, 2, 3, 0, 2), 2);
        due.is("the paper 50 in 50 days", y.lasted(0, 3, 0, 2, 1) > 0 ? 1 : 0, 1);
        CaughtHand z = with("p0000000@0,p9000400@1;rrrr");
        z.sheet(3, 0, 4);
        z.film(0, 1, 3, 0, 1);
        due.is("400 as a byte is -112", z.lasted(0, 3, 0, 0, 1), NOT);
    }

    private static void promise33() {
        CaughtHand x = new CaughtHand();
        due.is("sheet", x.sheet(-1, 0, 0), BAD);
        due.is("sheet", x.sheet(4, 0, 0), BAD);
        due.is("sheet", x.sheet(0, -1, 0), BAD);
        due.is("sheet", x.sheet(0, 4, 0), BAD);
        due.is("sheet", x.sheet(0, 0, 25), BAD);
        due.is("sheet", x.sheet(0, 0, GREATEST), BAD);
        due.is("bad ahead of size", x.sheet(4, 0, -1), BAD);
        due.is("size", x.sheet(0, 0, -1), SIZE);
        due.is("size", x.sheet(0, 0, LEAST), SIZE);
        due.is("nothing yet", x.drop(0), NULL);
        due.is("sheet", x.sheet(0, 3, 0), 0);
        due.is("empty", x.item(0, 3, 0, 1), INDEX);
        due.is("sheet", x.sheet(0, 2, 24), 24);
        x.person(0, 0, 0, 0);
        x.item(0, 2, 0, 61);
        due.is("an item", x.lasted(0, 0, 2, 0, 1), NOT);
        due.is("a new one", x.sheet(0, 2, 24), 24);
        due.is("all 0", x.lasted(0, 0, 2, 0, 1), 0x7ffffffe);
        x.item(0, 2, 1, 7);
        due.is("an item", x.lasted(0, 0, 2, 0, 1), 0);
        due.is("refused", x.sheet(0, 1, -1), SIZE);
        due.is("the old one stays", x.lasted(0, 0, 2, 0, 1), 0);
        due.is("a new one", x.sheet(0, 2, 2), 2);
        due.is("all 0", x.lasted(0, 0, 2, 0, 1), 0x7ffffffe);
    }

    private static void promise34() {
        CaughtHand x = new CaughtHand();
        for (int sheet = 0; sheet < 4; sheet++) {
            due.is("drop", x.drop(sheet), NULL);
            x.sheet(sheet, sheet, 6 * sheet);
        }
        for (int sheet = 0; sheet < 4; sheet++) {
            due.is("drop", x.drop(sheet), 6 * sheet);
            due.is("drop", x.drop(sheet), NULL);
        }
        due.is("drop", x.drop(-1), BAD);
        due.is("drop", x.drop(4), BAD);
        due.is("gone", x.item(1, 1, 0, 0), NULL);
    }

    private static void promise35() {
        CaughtHand x = with("p0000050@0");
        due.is("null", x.item(0, 0, -1, 0), NULL);
        x.sheet(0, 0, 2);
        due.is("cast", x.item(0, 1, -1, 0), CAST);
        due.is("index", x.item(0, 0, -1, 0), INDEX);
        due.is("index", x.item(0, 0, 2, 0), INDEX);
        due.is("item", x.item(4, 0, 0, 0), BAD);
        due.is("item", x.item(-1, 0, 0, 0), BAD);
        due.is("item", x.item(0, 4, 0, 0), BAD);
        due.is("item", x.item(0, -1, 0, 0), BAD);
        due.is("item", x.item(0, 0, 1, 256 + 50), 1);
        due.is("its lowest bits", x.lasted(0, 0, 0, 0, 1), 0x7ffffffe);
        x.item(0, 0, 1, 128 + 50);
        due.is("with a sign", x.lasted(0, 0, 0, 0, 1), NOT);
        x.sheet(1, 1, 2);
        x.item(1, 1, 1, 65536 + 50);
        due.is("shorts", x.lasted(0, 1, 1, 0, 1), 0x7ffffffe);
        x.item(1, 1, 1, 32768 + 50);
        due.is("with a sign", x.lasted(0, 1, 1, 0, 1), NOT);
        x.sheet(2, 2, 2);
        x.item(2, 2, 1, (1L << 32) + 50);
        due.is("ints", x.lasted(0, 2, 2, 0, 1), 0x7ffffffe);
        x.item(2, 2, 1, (1L << 31) + 50);
        due.is("with a sign", x.lasted(0, 2, 2, 0, 1), NOT);
        x.sheet(3, 3, 2);
        x.item(3, 3, 1, (1L << 32) + 50);
        due.is("longs", x.lasted(0, 3, 3, 0, 1), NOT);
        x.item(3, 3, 1, 50);
        due.is("longs", x.lasted(0, 3, 3, 0, 1), 0x7ffffffe);
    }

    private static void promise36() {
        CaughtHand x = with("p0000005@0");
        due.is("bad ahead of null", x.copy(4, 0, 0, 0, 0), BAD);
        due.is("bad", x.copy(0, 0, -1, 0, 0), BAD);
        due.is("bad", x.copy(-1, 0, 0, 0, 0), BAD);
        due.is("bad", x.copy(0, 0, 4, 0, 0), BAD);
        due.is("null", x.copy(0, 0, 0, 0, 0), NULL);
        x.sheet(0, 2, 6);
        due.is("null", x.copy(0, 0, 1, 0, -1), NULL);
        due.is("null", x.copy(1, 0, 0, 0, -1), NULL);
        x.sheet(1, 3, 6);
        due.is("cast", x.copy(0, 0, 1, 0, -1), CAST);
        x.sheet(1, 2, 6);
        due.is("index", x.copy(0, 0, 1, 0, -1), INDEX);
        due.is("index", x.copy(0, -1, 1, 0, 0), INDEX);
        due.is("index", x.copy(0, 0, 1, -1, 0), INDEX);
        due.is("index", x.copy(0, 7, 1, 0, 0), INDEX);
        due.is("index", x.copy(0, 0, 1, 7, 0), INDEX);
        due.is("index", x.copy(0, 1, 1, 0, 6), INDEX);
        due.is("index", x.copy(0, 0, 1, 1, 6), INDEX);
        due.is("index", x.copy(0, GREATEST, 1, 0, GREATEST), INDEX);
        due.is("none at the end", x.copy(0, 6, 1, 6, 0), 0);
        due.is("all", x.copy(0, 0, 1, 0, 6), 6);
        x.item(0, 2, 0, 0);
        x.item(0, 2, 1, 5);
        due.is("on itself", x.copy(0, 0, 0, 2, 4), 4);
        due.is("as if taken ahead", x.lasted(0, 0, 2, 2, 1), 0x7ffffffe);
        due.is("as if taken ahead", x.lasted(0, 0, 2, 4, 1), 0);
        due.is("back", x.copy(0, 2, 0, 1, 2), 2);
        due.is("moved down", x.lasted(0, 0, 2, 1, 1), 0x7ffffffe);
        x.copy(0, 1, 1, 4, 2);
        due.is("to another one", x.lasted(0, 1, 2, 4, 1), 0x7ffffffe);
        x.item(0, 2, 2, 6);
        due.is("which is its own", x.lasted(0, 1, 2, 4, 1), 0x7ffffffe);
    }
}
