/** What the tests of single sentences share: offices to begin with, ranges, and all of an object read as one text. */
final class Edges {
    static final int BAD = -1, NOT = -2, FULL = -3, NONE = -4, NULL = -11, CAST = -12, INDEX = -13, SIZE = -14;
    static final int LEAST = Integer.MIN_VALUE, GREATEST = Integer.MAX_VALUE;
    static final int EVERY_L = 0x7ffffffe;
    static final String WET = "rrrrrrrrrrrrrrrrrrrrrrrrrrrrrr";
    static final String SEVEN = "p0000000@0,p1111111@1,p2222222@2,p3333333@3,p4444444@4,p5555555@5,p6666666@6";

    private static final int RICH_PEOPLE = 3;

    private final Due due;
    private final String allOfRich = allOf(rich());

    Edges(Due due) {
        this.due = due;
    }

    /** A call on an object. */
    interface Call {
        long on(CaughtHand x);
    }

    /** A call on an object, one number of it left open. */
    interface CallWith {
        long on(CaughtHand x, int value);
    }

    CaughtHand with(String text) {
        CaughtHand x = new CaughtHand();
        int answer = Due.officeOf(x, text);
        due.so("'" + text + "' is an office", answer > 0);
        return x;
    }

    /** An office as of a text, the chairs of a set dry. */
    CaughtHand with(String text, int dryChairs) {
        CaughtHand x = with(text);
        for (int chair = 0; chair < 8; chair++) {
            if ((dryChairs >> chair & 1) == 1) {
                x.dry(chair, 1);
            }
        }
        return x;
    }

    /** An object on which everything that can be something is something: strokes taken, days known, an image, sheets, a tape. */
    static CaughtHand rich() {
        CaughtHand x = richButNoTape();
        x.type('p');
        x.type('5');
        return x;
    }

    static CaughtHand richButNoTape() {
        CaughtHand x = new CaughtHand();
        Due.officeOf(x, "p0000000@0,s9123456@1,l3000077@4;rrr.r");
        x.lasting(9);
        x.dry(6, 1);
        x.seed(77);
        x.days(2);
        x.image();
        x.days(1);
        x.sheet(0, 2, 7);
        int[] papers = {0, 123000, 2, 123400, 16, 23400, 5};
        for (int i = 0; i < papers.length; i++) {
            x.item(0, 2, i, papers[i]);
        }
        x.sheet(1, 0, 3);
        x.item(1, 0, 1, 77);
        x.sheet(3, 3, 2);
        x.item(3, 3, 1, 77);
        return x;
    }

    /** All that an object holds, read out of it, as one text; the object is spoilt by it. */
    static String allOf(CaughtHand x) {
        StringBuilder s = new StringBuilder();
        addOffice(s, x);
        s.append(x.type('x')).append(' ').append(x.office()).append(' ');
        s.append(x.restore()).append(' ');
        addOffice(s, x);
        addSheets(s, x);
        return s.toString();
    }

    /** By what people write who are as those of the rich object were when its sheets were laid. */
    private static void addSheets(StringBuilder s, CaughtHand x) {
        Due.officeOf(x, "p0000000@0,s9123456@1,l3000077@4;rrr.r");
        x.lasting(9);
        x.days(3);
        s.append(x.lasted(0, 0, 2, 0, 3)).append(' ').append(x.lasted(2, 1, 0, 0, 1)).append(' ').append(x.lasted(2, 3, 3, 0, 1)).append(' ');
        for (int sheet = 0; sheet < 4; sheet++) {
            s.append(x.drop(sheet)).append(' ');
        }
    }

    private static void addOffice(StringBuilder s, CaughtHand x) {
        s.append(Due.stateOf(x)).append(x.weather(0)).append(' ').append(x.seed(0)).append(' ');
        for (int k = 0; k < 9 && x.undo() >= 0; k++) {
            s.append(handsOf(x));
        }
    }

    /** What a day changes: the day, what is written, and till when. */
    static String handsOf(CaughtHand x) {
        StringBuilder s = new StringBuilder();
        int people = x.count(0);
        s.append(x.count(1)).append(':');
        for (int person = 0; person < people; person++) {
            s.append(x.of(person, 4)).append(' ');
            for (int place = 0; place < 6; place++) {
                s.append(x.till(person, place)).append(' ');
            }
        }
        return s.toString();
    }

    /** A call on the rich object that answers so and leaves all of it as it was. */
    void leavesAll(String call, long want, Call c) {
        CaughtHand x = rich();
        due.is(call, c.on(x), want);
        due.so(call + " changes nothing", allOf(x).equals(allOfRich));
    }

    /** As the last one, but the image may be another one then. */
    void leavesAllButTheImage(String call, long want, Call c) {
        CaughtHand x = rich();
        CaughtHand y = rich();
        due.is(call, c.on(x), want);
        y.image();
        due.so(call + " changes nothing else", allOf(x).equals(allOf(y)));
        CaughtHand z = rich();
        String before = Due.stateOf(z);
        c.on(z);
        due.so(call + " changes nothing else", Due.stateOf(z).equals(before));
    }

    /** A call that foretells: it answers twice alike, and leaves all as it was. */
    void foretells(String call, Call c) {
        CaughtHand twice = rich();
        long want = c.on(twice);
        due.is(call + " once more", c.on(twice), want);
        leavesAll(call, want, c);
    }

    /** On the rich object the numbers from the least to the greatest are not BAD, those beside them are, and change nothing. */
    void within(String name, int least, int greatest, CallWith c) {
        for (int value = least; value <= greatest && value >= least; value++) {
            due.so(name + " " + value + " is in", c.on(rich(), value) != BAD);
            if (value == least + 1 && greatest - least > 130) {
                value = greatest - 2;
            }
            if (value == GREATEST) {
                break;
            }
        }
        out(name, c, least - 1, LEAST);
        if (greatest < GREATEST) {
            out(name, c, greatest + 1, GREATEST);
        }
    }

    private void out(String name, CallWith c, int... values) {
        for (int value : values) {
            leavesAll(name + " " + value, BAD, x -> c.on(x, value));
        }
    }

    /** Told for numbers of people of none, one, three and seven: those there are not BAD, all others are. */
    void aPerson(String name, CallWith c) {
        due.is(name + " 0 of none", c.on(ofPeople(""), 0), BAD);
        due.is(name + " -1 of none", c.on(ofPeople(""), -1), BAD);
        due.so(name + " 0 of one", c.on(ofPeople("p0012345@3"), 0) != BAD);
        due.is(name + " 1 of one", c.on(ofPeople("p0012345@3"), 1), BAD);
        for (int person = 0; person < 7; person++) {
            due.so(name + " " + person + " of seven", c.on(ofPeople(SEVEN), person) != BAD);
        }
        due.is(name + " 7 of seven", c.on(ofPeople(SEVEN), 7), BAD);
        due.is(name + " -1 of seven", c.on(ofPeople(SEVEN), -1), BAD);
        out(name, c, -1, RICH_PEOPLE, LEAST, GREATEST);
    }

    private CaughtHand ofPeople(String text) {
        CaughtHand x = text.isEmpty() ? new CaughtHand() : with(text);
        x.sheet(0, 2, 24);
        return x;
    }

    /** A number of six figures 0 .. 7. */
    void sixFigures(String name, CallWith c) {
        for (int value : new int[] {0, 7, 70, 700, 7000, 70000, 700000, 777777, 777776, 10, 123456}) {
            due.so(name + " " + value + " is in", c.on(rich(), value) != BAD);
        }
        out(name, c, -1, 777778, 777779, 777780, 1000000, 1012345, LEAST, GREATEST);
        for (int power = 1; power <= 100000; power *= 10) {
            out(name, c, 8 * power, 9 * power, 111111 + 7 * power, 111111 + 8 * power);
        }
    }
}
