/** Promises 10 and 11, the tape and offices as texts: a test for each sentence that names an edge. */
public final class EdgeTextTest {
    private static final int BAD = -1, FULL = -3, NONE = -4;
    private static final int MOST_LETTERS = 130;
    private static final Due due = new Due();
    private static final Edges edges = new Edges(due);

    public static void main(String[] args) {
        all().end();
    }

    static Due all() {
        tape();
        people();
        weather();
        inPlaceOfAll();
        faults();
        return due;
    }

    // ---- promise 10

    private static void tape() {
        due.part("10: BAD: not 32 .. 126"); edges.within("letter", 32, 126, (x, v) -> x.type(v));
        due.part("10: One letter more behind THE TAPE: how many it has"); howManyLetters();
        due.part("10: FULL: 130"); fullTape();
        due.part("10: BAD ahead of all others"); badLetterOnAFullTape();
    }

    private static void howManyLetters() {
        CaughtHand x = new CaughtHand();
        String text = "s3765432@6;.r";
        for (int k = 0; k < text.length(); k++) {
            due.is("letter", x.type(text.charAt(k)), k + 1);
            due.is("refused", x.type(127), BAD);
        }
        due.is("office", x.office(), 1);
        due.is("in their order", x.of(0, 2), 765432);
    }

    private static void fullTape() {
        CaughtHand x = new CaughtHand();
        Due.officeOf(x, "x");
        String text = padded("p0000000@0", MOST_LETTERS - 1);
        for (int k = 0; k < text.length(); k++) {
            due.is("letter", x.type(text.charAt(k)), k + 1);
        }
        due.is("the last", x.type(';'), MOST_LETTERS);
        for (int k = 0; k < 3; k++) {
            due.is("one more", x.type('r'), FULL);
        }
        due.is("it is not on it", x.office(), -20 - MOST_LETTERS);
        due.is("empty then", x.type('p'), 1);
        CaughtHand y = new CaughtHand();
        Due.officeOf(y, "");
        String last = padded("p0000000@0;", MOST_LETTERS - 1) + "r";
        for (int k = 0; k < last.length(); k++) {
            y.type(last.charAt(k));
        }
        due.is("full", y.type('r'), FULL);
        due.is("the last letter is on it", y.office(), 1);
        due.is("weather of one sign", y.weather(0), 1);
    }

    private static void badLetterOnAFullTape() {
        CaughtHand x = new CaughtHand();
        for (int k = 0; k < MOST_LETTERS; k++) {
            x.type('p');
        }
        due.is("below", x.type(31), BAD);
        due.is("above", x.type(127), BAD);
        due.is("the least", x.type(32), FULL);
        due.is("the greatest", x.type(126), FULL);
    }

    private static String padded(String text, int length) {
        StringBuilder s = new StringBuilder(text);
        while (s.length() < length) {
            s.append(' ');
        }
        return s.toString();
    }

    // ---- promise 11: people

    private static void people() {
        due.part("11: 1 to 7 PEOPLE"); oneToSeven();
        due.part("11: with , between"); commasBetween();
        due.part("11: p s l t (KINDS in this order)"); kindsInOrder();
        due.part("11: a digit (STRENGTH)"); strengths();
        due.part("11: six digits 0 .. 7 (its HAND)"); hands();
        due.part("11: @ and a digit 0 .. 7"); chairs();
        due.part("11: (a CHAIR that is free)"); freeChairs();
        due.part("11: each place of a text: which letters can stand there"); everyLetterAtEveryPlace();
    }

    private static void oneToSeven() {
        StringBuilder text = new StringBuilder();
        answers("", -20);
        answers(";r", -20);
        for (int k = 1; k <= 7; k++) {
            text.append(k == 1 ? "" : ",").append("p").append(k).append("00000").append(k).append('@').append(7 - k);
            answers(text.toString(), k);
            answers(text + ";r", k);
        }
        answers(text + ",", -20 - 76);
        answers(text + ",p0000000@7", -20 - 76);
        answers(text + " , p0000000@7", -20 - 77);
        CaughtHand x = edges.with(text.toString());
        for (int k = 0; k < 7; k++) {
            due.is("strength", x.of(k, 1), k + 1);
            due.is("hand", x.of(k, 2), k + 1);
            due.is("chair", x.of(k, 3), 6 - k);
        }
    }

    private static void commasBetween() {
        answers("p0000000@0,p0000000@1", 2);
        answers("p0000000@0p0000000@1", -30);
        answers("p0000000@0,,p0000000@1", -31);
        answers("p0000000@0;p0000000@1", -31);
        answers(",p0000000@0", -20);
        answers("p0000000@0,", -31);
        answers("p0000000@0,;r", -31);
        answers("p0000000@0;r,p0000000@1", -32);
        answers("p0000000@0-p0000000@1", -30);
        answers("p0000000@0+p0000000@1", -30);
    }

    private static void kindsInOrder() {
        String kinds = "pslt";
        for (int kind = 0; kind < 4; kind++) {
            due.is("kind", edges.with(kinds.charAt(kind) + "0000000@0").of(0, 0), kind);
        }
        CaughtHand all = edges.with("t0000000@0,l0000000@1,s0000000@2,p0000000@3");
        for (int kind = 0; kind < 4; kind++) {
            due.is("kind", all.of(3 - kind, 0), kind);
        }
        for (char c = 33; c < 127; c++) {
            answers(c + "0000000@0", kinds.indexOf(c) >= 0 ? 1 : -20);
            answers("p0000000@7," + c + "0000000@0", kinds.indexOf(c) >= 0 ? 2 : -31);
        }
    }

    private static void strengths() {
        for (char c = '0'; c <= '9'; c++) {
            due.is("strength", edges.with("p" + c + "000000@0").of(0, 1), c - '0');
        }
        answers("p/000000@0", -21);
        answers("p:000000@0", -21);
        answers("p@0", -21);
        answers("p", -21);
    }

    private static void hands() {
        int power = 100000;
        for (int place = 0; place < 6; place++) {
            for (char c = '0'; c <= '7'; c++) {
                due.is("hand", edges.with("p9" + sixWith(place, c) + "@0").of(0, 2), 111111 + (c - '1') * power);
            }
            for (char c : new char[] {'/', '8', '9', ':', '@', 'p'}) {
                answers("p9" + sixWith(place, c) + "@0", -22 - place);
            }
            answers("p9" + "1".repeat(place), -22 - place);
            answers("p9" + "1".repeat(place) + "@0", -22 - place);
            power /= 10;
        }
        answers("p91111111@0", -28);
        answers("p9777777@0", 1);
        answers("p9000000@0", 1);
    }

    private static String sixWith(int place, char c) {
        StringBuilder six = new StringBuilder("111111");
        six.setCharAt(place, c);
        return six.toString();
    }

    private static void chairs() {
        for (char c = '0'; c <= '7'; c++) {
            due.is("chair", edges.with("p0000000@" + c).of(0, 3), c - '0');
        }
        for (char c : new char[] {'/', '8', '9', ':', '@', ',', ';'}) {
            answers("p0000000@" + c, -29);
        }
        for (char c : new char[] {'?', 'A', '0', ',', ';'}) {
            answers("p0000000" + c + "0", -28);
        }
        answers("p0000000", -28);
        answers("p0000000@", -29);
        answers("p0000000@00", -30);
    }

    private static void freeChairs() {
        for (int one = 0; one < 8; one++) {
            for (int other = 0; other < 8; other++) {
                answers("p0000000@" + one + ",s0000000@" + other, one == other ? -40 : 2);
            }
        }
        answers("p0000000@3,s0000000@4,p0000000@3", -51);
        CaughtHand x = edges.with(Edges.SEVEN);
        due.is("free of those who leave", Due.officeOf(x, "p0123456@3"), 1);
        due.is("at", x.at(3), 0);
    }

    private static void everyLetterAtEveryPlace() {
        String text = "p0000000@0,s9777777@7;.r";
        String digits = "0123456789";
        String strokes = "01234567";
        String[] may = {"pslt", digits, strokes, strokes, strokes, strokes, strokes, strokes, "@", strokes, ",;",
            "pslt", digits, strokes, strokes, strokes, strokes, strokes, strokes, "@", "1234567", ",;", ".r", ".r"};
        for (int place = 0; place < text.length(); place++) {
            for (char c = 33; c < 127; c++) {
                int answer = officeOf(text.substring(0, place) + c + text.substring(place + 1));
                boolean may1 = may[place].indexOf(c) >= 0;
                due.so(c + " at " + place + (may1 ? " can stand there" : " can't stand there"), (answer != -20 - place) == may1);
            }
        }
    }

    // ---- promise 11: weather

    private static void weather() {
        due.part("11: then perhaps ; (WEATHER 0 without it)"); withoutWeather();
        due.part("11: 1 to 30 signs"); oneToThirtySigns();
        due.part("11: . (dry) or r (WET)"); signs();
        due.part("11: (WEATHER from its bit 0 on; the others 0)"); bitsFromZeroOn();
    }

    private static void withoutWeather() {
        CaughtHand x = new CaughtHand();
        x.weather(1073741823);
        due.is("office", Due.officeOf(x, "p0000000@0"), 1);
        due.is("weather", x.weather(1073741823), 0);
        due.is("with it", Due.officeOf(x, "p0000000@0;."), 1);
        due.is("weather", x.weather(0), 0);
        answers("p0000000@0:r", -30);
        answers("p0000000@0<r", -30);
        answers("p0000000@0r", -30);
        answers("p0000000@0;;r", -31);
    }

    private static void oneToThirtySigns() {
        answers("p0000000@0;", -31);
        answers("p0000000@0; ", -32);
        for (int signs = 1; signs <= 30; signs++) {
            answers("p0000000@0;" + "r".repeat(signs), 1);
            answers("p0000000@0;" + ".".repeat(signs), 1);
        }
        answers("p0000000@0;" + "r".repeat(31), -20 - 41);
        answers("p0000000@0;" + ".".repeat(31), -20 - 41);
        answers("p0000000@0;" + "r".repeat(30) + " r", -20 - 42);
        answers("p0000000@0;" + "r".repeat(30) + "x", -20 - 41);
        answers("p0000000@0;" + "r".repeat(30) + " ", 1);
    }

    private static void signs() {
        for (char c = 33; c < 127; c++) {
            answers("p0000000@0;" + c, c == '.' || c == 'r' ? 1 : -31);
            answers("p0000000@0;r." + c, c == '.' || c == 'r' ? 1 : -33);
        }
        CaughtHand x = edges.with("p0000000@0;r.");
        due.is("r is wet", x.count(2), 1);
        x.days(1);
        due.is(". is dry", x.count(2), 0);
    }

    private static void bitsFromZeroOn() {
        for (int bit = 0; bit < 30; bit++) {
            CaughtHand x = new CaughtHand();
            x.weather(1073741823);
            Due.officeOf(x, "p0000000@0;" + ".".repeat(bit) + "r");
            due.is("bit " + bit, x.weather(0), 1 << bit);
        }
        CaughtHand all = edges.with("p0000000@0;" + Edges.WET);
        due.is("all", all.weather(0), 1073741823);
        CaughtHand few = new CaughtHand();
        few.weather(1073741823);
        Due.officeOf(few, "p0000000@0;.r.r");
        due.is("the others 0", few.weather(0), 10);
    }

    // ---- promise 11: what comes and what stays

    private static void inPlaceOfAll() {
        due.part("11: in place of all PEOPLE"); inPlaceOfPeople();
        due.part("11: its own at first, nothing taken"); ownAtFirst();
        due.part("11: THE DAY is 0, no CHAIR DRY"); dayAndDryChairs();
        due.part("11: LASTING, THE DRAW, the IMAGE, SHEETS stay"); whatStays();
        due.part("11: an OFFICE leaves nothing to be UNDONE"); nothingToUndo();
        due.part("11: THE TAPE, which is empty then (by a FAULT, too)"); emptyThen();
        due.part("11: A FAULT (all else stays)"); allElseStays();
    }

    private static void inPlaceOfPeople() {
        CaughtHand x = edges.with(Edges.SEVEN);
        due.is("one for seven", Due.officeOf(x, "t9765432@7"), 1);
        due.is("people", x.count(0), 1);
        due.is("its number", x.of(0, 2), 765432);
        due.is("no second", x.of(1, 0), BAD);
        for (int chair = 0; chair < 7; chair++) {
            due.is("at", x.at(chair), NONE);
        }
        due.is("at", x.at(7), 0);
        due.is("seven for one", Due.officeOf(x, Edges.SEVEN), 7);
        due.is("at", x.at(7), NONE);
        due.is("at", x.at(6), 6);
    }

    private static void ownAtFirst() {
        CaughtHand x = edges.with("p0000000@0,s9123456@1;" + Edges.WET);
        x.days(9);
        due.is("taken", x.count(6), 6);
        Due.officeOf(x, "p0000000@0,s9123456@1");
        due.is("none taken", x.count(6), 0);
        due.is("writes", x.of(0, 4), 0);
        for (int place = 0; place < 6; place++) {
            due.is("till", x.till(0, place), NONE);
        }
    }

    private static void dayAndDryChairs() {
        for (int days = 1; days <= 61; days += 30) {
            CaughtHand x = edges.with("p0000000@0,s9777777@1;" + Edges.WET);
            for (int chair = 0; chair < 8; chair++) {
                x.dry(chair, 1);
            }
            x.days(1);
            x.days(Math.max(1, days - 1));
            // foretold ahead of it, and a fault: neither leaves anything behind
            due.is("foretold", x.writes(0, 60), 0);
            due.is("a fault", Due.officeOf(x, "p0000000@0;rrrx"), -34);
            due.is("office", Due.officeOf(x, "p0000000@0,s9100000@1;r"), 2);
            due.is("day", x.count(1), 0);
            due.is("dry", x.count(3), 0);
            due.is("wet", x.count(2), 1);
            due.is("weather", x.weather(1), 1);
            due.is("taken", x.days(1), 1);
            due.is("till", x.till(0, 0), 28);
            due.is("dry", x.count(3), 0);
            due.is("foretold", x.writes(0, 60), 100000);
            due.is("office without weather", Due.officeOf(x, "p0000000@0"), 1);
            due.is("day", x.count(1), 0);
            due.is("weather", x.weather(1), 0);
        }
    }

    private static void whatStays() {
        CaughtHand x = new CaughtHand();
        x.lasting(30);
        x.seed(2147483647);
        x.person(3, 3, 333333, 3);
        x.image();
        x.sheet(0, 2, 2);
        x.item(0, 2, 1, 765432);
        x.sheet(3, 0, 24);
        due.is("office", Due.officeOf(x, "p0765432@0"), 1);
        due.is("lasting", x.count(4), 30);
        due.is("lasts", x.of(0, 6), 30);
        due.is("draw", x.seed(5), 2147483647);
        due.is("items", x.lasted(0, 0, 2, 0, 1), Edges.EVERY_L);
        due.is("sheet", x.drop(3), 24);
        due.is("nothing", x.drop(2), -11);
        due.is("image", x.restore(), 1);
        due.is("of the image", x.of(0, 2), 333333);
    }

    private static void nothingToUndo() {
        for (int days : new int[] {1, 8, 9}) {
            CaughtHand x = new CaughtHand();
            x.days(days);
            Due.officeOf(x, "p0000000@0,");
            due.is("behind a fault", x.count(5), Math.min(days, 8));
            Due.officeOf(x, "p0000000@0");
            due.is("known", x.count(5), 0);
            due.is("undo", x.undo(), NONE);
            due.is("day", x.count(1), 0);
            x.days(2);
            due.is("new days", x.count(5), 2);
            due.is("undo", x.undo(), 1);
            due.is("undo", x.undo(), 0);
            due.is("undo", x.undo(), NONE);
        }
    }

    private static void emptyThen() {
        for (String text : new String[] {"", " ", "x", "p0000000@0", "p0000000@0,", "p0000000@0;r", "p0000000@0;rx"}) {
            CaughtHand x = new CaughtHand();
            Due.officeOf(x, text);
            due.is("no letters behind '" + text + "'", x.office(), -20);
            Due.officeOf(x, text);
            due.is("a letter behind '" + text + "'", x.type('p'), 1);
        }
    }

    private static void allElseStays() {
        String others = ",s1111111@0,s1111111@1,s1111111@2,s1111111@3,s1111111@4,s1111111@5";
        // what is typed behind the p5 that is on the tape
        for (String rest : new String[] {"", "x", "777777", "777777@7,", "777777@7,t9777777@7", "777777@7;", "777777@7;x", "777777@7;rx", "777777@8",
            "777777@7" + others + ",", "777777@7;" + "r".repeat(31)}) {
            CaughtHand x = Edges.rich();
            due.so("'p5" + rest + "' is none", Due.officeOf(x, rest) <= -20);
            due.so("'p5" + rest + "' changes nothing", Edges.allOf(x).equals(Edges.allOf(Edges.richButNoTape())));
        }
    }

    // ---- promise 11: faults

    private static void faults() {
        due.part("11: -20 less the place of the first letter that can't stand there"); places();
        due.part("11: the first letter (behind blanks)"); placesBehindBlanks();
        due.part("11: (the end: how many there are)"); ends();
        due.part("11: blanks count for nothing"); blanks();
    }

    private static void places() {
        answers("x", -20);
        answers("xp0000000@0", -20);
        answers("px0000000@0", -21);
        answers("p0000000@0x", -30);
        answers("p8888888@8", -22);
        for (int place : new int[] {10, 11, 64, 128, 129}) {
            answers(padded("p0000000@0", place) + "x", -20 - place);
            answers(" ".repeat(place) + "x", -20 - place);
        }
    }

    private static void placesBehindBlanks() {
        answers(" x", -21);
        answers("p  x", -23);
        answers("p0  0000  0x", -31);
        answers("p0000000 @ 9", -31);
        answers("p0000000@0 ,  x", -34);
        answers("p0000000@0 ;  x", -34);
        answers("p0000000@0 ; r  x", -36);
        answers("p0000000@0 x ", -31);
    }

    private static void ends() {
        String text = "p0000000@0,s9777777@7;.r";
        for (int length = 0; length <= text.length(); length++) {
            int answer = length == 10 ? 1 : length == 21 || length > 22 ? 2 : -20 - length;
            answers(text.substring(0, length), answer);
            answers(text.substring(0, length) + "   ", answer > 0 ? answer : answer - 3);
        }
        answers(" ".repeat(130), -150);
        answers(padded("p0000000@0,", 130), -150);
        answers(padded("p0000000@0", 130), 1);
    }

    private static void blanks() {
        String text = "l3765432@7,s9000001@0;.r";
        StringBuilder wide = new StringBuilder();
        for (int k = 0; k < text.length(); k++) {
            wide.append("    ").append(text.charAt(k));
            String one = text.substring(0, k) + " " + text.substring(k);
            answers(one, 2);
        }
        CaughtHand x = edges.with(wide + "    ");
        due.is("kind", x.of(0, 0), 2);
        due.is("strength", x.of(0, 1), 3);
        due.is("hand", x.of(0, 2), 765432);
        due.is("chair", x.of(0, 3), 7);
        due.is("hand", x.of(1, 2), 1);
        due.is("weather", x.weather(0), 2);
    }

    private static int officeOf(String text) {
        return Due.officeOf(new CaughtHand(), text);
    }

    private static void answers(String text, int want) {
        due.is("office of '" + text + "'", officeOf(text), want);
    }
}
