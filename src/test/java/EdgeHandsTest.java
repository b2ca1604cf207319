/** Promises 26 to 30, papers by two, the tree, signatures, images: a test for each sentence that names an edge. */
public final class EdgeHandsTest {
    private static final int BAD = -1, NONE = -4;
    private static final Due due = new Due();
    private static final Edges edges = new Edges(due);

    public static void main(String[] args) {
        all().end();
    }

    static Due all() {
        papersByTwo();
        trees();
        signatures();
        images();
        return due;
    }

    // ---- promise 26

    private static void papersByTwo() {
        due.part("26: a paper (six figures)"); edges.sixFigures("paper", (x, v) -> x.two(v, 0));
        due.part("26: how many (0), the first (1)"); edges.within("what", 0, 1, (x, v) -> x.two(123077, v));
        due.part("26: nothing is changed"); edges.foretells("two 123077 0", x -> x.two(123077, 0)); edges.foretells("two 123077 1", x -> x.two(123077, 1));
        due.part("26: NONE"); noPairs();
        due.part("26: each STROKE is the one's own or the other's at its place"); eachStroke();
        due.part("26: each of both is needed"); bothNeeded();
        due.part("26: pairs of PEOPLE (the lesser first): how many; the first"); manyPairs();
        due.part("26: own STROKES, whatever is WRITTEN"); ownStrokesOfTwo();
    }

    private static void twoIs(CaughtHand x, int paper, int many, int first) {
        due.is("how many for " + paper, x.two(paper, 0), many);
        due.is("first for " + paper, x.two(paper, 1), first);
    }

    private static void noPairs() {
        twoIs(new CaughtHand(), 0, 0, NONE);
        twoIs(edges.with("p0123456@0"), 123456, 0, NONE);
        twoIs(edges.with("p0123456@0"), 777777, 0, NONE);
        twoIs(edges.with("p0123456@0,p0123456@1"), 777777, 0, NONE);
        twoIs(edges.with(Edges.SEVEN), 777777, 0, NONE);
        due.is("no such paper ahead of it", new CaughtHand().two(8, 1), BAD);
        due.is("no such what ahead of it", new CaughtHand().two(0, 2), BAD);
    }

    private static void eachStroke() {
        int power = 100000;
        for (int place = 0; place < 6; place++) {
            CaughtHand x = edges.with("p0111000@0,p0000111@1");
            twoIs(x, 111111, 1, 1);
            twoIs(x, 111111 + power, 0, NONE);
            twoIs(x, 111111 + 6 * power, 0, NONE);
            power /= 10;
        }
        CaughtHand other = edges.with("p0123400@0,p0065123@1");
        twoIs(other, 123123, 1, 1);
        twoIs(other, 165123, 1, 1);
        twoIs(other, 321400, 0, NONE);
    }

    private static void bothNeeded() {
        twoIs(edges.with("p0111111@0,p0111222@1"), 111111, 0, NONE);
        twoIs(edges.with("p0111111@0,p0111222@1"), 111222, 0, NONE);
        twoIs(edges.with("p0111111@0,p0111222@1"), 111212, 1, 1);
        twoIs(edges.with("p0111111@0,p0111111@1"), 111111, 0, NONE);
        twoIs(edges.with("p0111110@0,p0111111@1"), 111111, 0, NONE);
        twoIs(edges.with("p0111111@0,p0011111@1"), 111111, 0, NONE);
        twoIs(edges.with("p0111110@0,p0000001@1"), 111111, 1, 1);
        twoIs(edges.with("p0111110@0,p0011111@1"), 111111, 1, 1);
        twoIs(edges.with("p0111110@0,p0111110@1"), 111111, 0, NONE);
    }

    private static void manyPairs() {
        String six = "p0211111@0,p0121111@1,p0112111@2,p0111211@3,p0111121@4,p0111112@5";
        twoIs(edges.with(six), 111111, 15, 1);
        twoIs(edges.with(six + ",p0111111@6"), 111111, 15, 1);
        twoIs(edges.with(six + ",p0333333@6"), 111111, 15, 1);
        twoIs(edges.with(six + ",p0311111@6"), 111111, 20, 1);
        twoIs(edges.with("p0333333@7,p0333333@1,p0333333@2,p0333333@3,p0333333@4,p0000111@5,p0111000@6"), 111111, 1, 8 * 5 + 6);
        twoIs(edges.with("p0000111@0,p0333333@1,p0333333@2,p0333333@3,p0333333@4,p0333333@5,p0111000@6"), 111111, 1, 6);
        twoIs(edges.with("p0000111@0,p0333333@1,p0111000@2,p0111000@3"), 111111, 2, 2);
        twoIs(edges.with("p0333333@0,p0000111@1,p0000111@2,p0111000@3"), 111111, 2, 8 + 3);
    }

    private static void ownStrokesOfTwo() {
        CaughtHand x = edges.with("p0000000@0,p9110000@1,p0001111@7;r");
        x.days(1);
        due.is("writes", x.of(0, 4), 100000);
        twoIs(x, 110000, 0, NONE);
        // by what is written the first and the last one would do, too
        twoIs(x, 101111, 1, 8 + 2);
    }

    // ---- promise 27

    private static void trees() {
        due.part("27: (0 of fewer than two)"); fewerThanTwo();
        due.part("27: as many CHANGES as places at which they are unlike"); changesOfTwo();
        due.part("27: the least sum by which all PEOPLE hang together"); leastSum();
        due.part("27: HANDS of their own"); ownHands();
        due.part("27: nothing is changed"); edges.foretells("tree", x -> x.tree());
    }

    private static void treeIs(String text, int changes) {
        due.is("tree of " + text, edges.with(text).tree(), changes);
    }

    private static void fewerThanTwo() {
        due.is("none", new CaughtHand().tree(), 0);
        treeIs("p0123456@0", 0);
        treeIs("p0777777@7", 0);
        treeIs("p0123456@0,p0123457@1", 1);
    }

    private static void changesOfTwo() {
        int hand = 0;
        int power = 1;
        for (int places = 0; places <= 6; places++) {
            CaughtHand x = new CaughtHand();
            x.person(0, 0, 0, 0);
            x.person(1, 9, hand, 7);
            due.is("unlike at " + places, x.tree(), places);
            hand += 7 * power;
            power *= 10;
        }
        treeIs("p0123456@0,p0234567@1", 6);
        treeIs("p0123456@0,p0654321@1", 6);
        treeIs("p0700000@0,p0000000@1", 1);
    }

    private static void leastSum() {
        treeIs(Edges.SEVEN, 36);
        treeIs(Edges.SEVEN.replaceAll("[0-6]{7}@", "0765432@"), 0);
        treeIs("p0000000@0,p0111111@1,p0000111@2", 6);
        treeIs("p0000000@0,p0000111@1,p0111111@2", 6);
        treeIs("p0000111@0,p0111111@1,p0000000@2", 6);
        treeIs("p0000000@0,p0111111@1,p0000001@2,p0111110@3", 6 + 1);
        treeIs("p0000000@0,p0000001@1,p0000010@2,p0000100@3,p0001000@4,p0010000@5,p0100000@6", 6);
        treeIs("p0000001@0,p0000010@1,p0000100@2,p0001000@3,p0010000@4,p0100000@5,p0000000@6", 6);
        treeIs("p0000001@0,p0000010@1,p0000100@2,p0001000@3,p0010000@4,p0100000@5", 10);
        treeIs("p0000000@0,p0111111@1,p0000001@2,p0011111@3,p0000011@4,p0001111@5,p0000111@6", 6);
    }

    private static void ownHands() {
        CaughtHand x = edges.with("p0000000@0,p9111111@1;" + Edges.WET);
        for (int day = 0; day < 7; day++) {
            due.is("on day " + day, x.tree(), 6);
            x.days(1);
        }
    }

    // ---- promise 28

    private static void signatures() {
        due.part("28: of a PERSON"); edges.aPerson("person", (x, v) -> x.signature(v));
        due.part("28: the least k (1 .. 6); none"); leastSignature();
        due.part("28: nobody else WRITES now the first k STROKES of its own"); writtenNow();
        due.part("28: nothing is changed"); edges.foretells("signature 0", x -> x.signature(0)); edges.foretells("signature 2", x -> x.signature(2));
    }

    private static void leastSignature() {
        due.is("alone", edges.with("p0123456@0").signature(0), 1);
        int[] others = {765432, 165432, 125432, 123532, 123432, 123457, 123456};
        for (int alike = 0; alike <= 6; alike++) {
            CaughtHand x = edges.with("p0123456@0,p0" + others[alike] + "@7");
            due.is("alike " + alike, x.signature(0), alike < 6 ? alike + 1 : NONE);
            due.is("alike " + alike, x.signature(1), alike < 6 ? alike + 1 : NONE);
        }
        CaughtHand later = edges.with("p0123456@0,p0723456@7");
        due.is("alike but for the first", later.signature(0), 1);
        CaughtHand several = edges.with("p0123456@0,p0723456@1,p0124456@2,p0173456@3,p0000000@4,p0000000@5,p0000000@6");
        due.is("of several", several.signature(0), 3);
        due.is("of three alike", several.signature(6), NONE);
        due.is("the first stroke", several.signature(1), 1);
        due.is("two strokes", several.signature(3), 2);
    }

    private static void writtenNow() {
        CaughtHand x = edges.with("p0000000@0,t9123456@1;" + Edges.WET);
        int[] of1 = {1, 2, 3, 4, 5, 6, NONE, NONE};
        for (int day = 0; day < of1.length; day++) {
            due.is("of the teacher on day " + day, x.signature(1), of1[day]);
            due.is("of the other on day " + day, x.signature(0), 1);
            x.days(1);
        }
        CaughtHand own = edges.with("p0000000@0,t9123456@1,p0000000@5;" + Edges.WET);
        due.is("two alike", own.signature(2), NONE);
        own.days(1);
        due.is("one has taken", own.signature(2), 1);
        due.is("its own, though not written", own.signature(0), NONE);
    }

    // ---- promises 29, 30

    private static void images() {
        due.part("29: All but SHEETS, THE TAPE is kept as an IMAGE: 1"); edges.leavesAllButTheImage("image", 1, x -> x.image());
        due.part("29: (what may be UNDONE, too)"); daysOfTheImage();
        due.part("29: the latest IMAGE"); latestImage();
        due.part("29: of an empty office"); emptyImage();
        due.part("30: NONE: there is none"); noImage();
        due.part("30: All is as it was then: 1"); asItWasThen();
        due.part("30: all but SHEETS, THE TAPE"); sheetsAndTapeStay();
        due.part("30: again and again"); againAndAgain();
    }

    private static CaughtHand behind(int days) {
        CaughtHand x = edges.with("p0000000@0,s5765432@1,l2333333@2;rr.rrr.rrrrr.rrr");
        x.lasting(3);
        for (int k = 0; k < days; k++) {
            x.days(1);
        }
        return x;
    }

    private static void daysOfTheImage() {
        for (int days : new int[] {0, 1, 7, 8, 9, 13}) {
            for (int since : new int[] {0, 1, 5, 8, 9}) {
                CaughtHand x = behind(days);
                x.image();
                for (int k = 0; k < since; k++) {
                    x.drift(1);
                }
                due.is("restore", x.restore(), 1);
                int known = Math.min(days, 8);
                due.is("known", x.count(5), known);
                for (int k = 1; k <= known; k++) {
                    due.is("undo", x.undo(), known - k);
                    if (k == 1 || k == known) {
                        due.so("as behind " + (days - k), Edges.handsOf(x).equals(Edges.handsOf(behind(days - k))));
                    }
                }
                due.is("undo", x.undo(), NONE);
            }
        }
    }

    private static void latestImage() {
        CaughtHand x = behind(2);
        x.image();
        x.days(1);
        due.is("another", x.image(), 1);
        x.days(1);
        x.restore();
        due.so("the latest", Edges.handsOf(x).equals(Edges.handsOf(behind(3))));
        x.undo();
        x.undo();
        x.image();
        x.days(5);
        x.restore();
        due.so("of fewer days", Edges.handsOf(x).equals(Edges.handsOf(behind(1))));
        due.is("known", x.count(5), 1);
    }

    private static void emptyImage() {
        CaughtHand x = new CaughtHand();
        due.is("image", x.image(), 1);
        Due.officeOf(x, Edges.SEVEN + ";rrr");
        x.days(3);
        x.dry(3, 1);
        x.lasting(30);
        x.seed(9);
        due.is("restore", x.restore(), 1);
        due.so("as new", Due.stateOf(x).equals(Due.stateOf(new CaughtHand())));
        due.is("weather", x.weather(0), 0);
        due.is("draw", x.seed(0), 1);
        due.is("undo", x.undo(), NONE);
        due.is("a person", x.person(0, 0, 765432, 6), 0);
        due.is("writes", x.of(0, 4), 765432);
        due.is("taken", x.of(0, 5), 0);
    }

    private static void noImage() {
        CaughtHand x = behind(3);
        String before = Due.stateOf(x);
        due.is("restore", x.restore(), NONE);
        due.is("restore", x.restore(), NONE);
        due.so("it changes nothing", Due.stateOf(x).equals(before));
        x.image();
        due.is("restore", x.restore(), 1);
        due.is("restore", x.restore(), 1);
    }

    private static void asItWasThen() {
        Edges.Call[] calls = {x -> x.person(3, 9, 777777, 3), x -> x.sit(0, 7), x -> x.sit(0, 1), x -> x.dry(1, 1), x -> x.dry(6, 0), x -> x.weather(1073741823),
            x -> x.lasting(30), x -> x.days(60), x -> x.drift(9), x -> x.undo(), x -> x.seed(0), x -> Due.officeOf(x, "p3000000@7"), x -> x.dryOut(0, 60)};
        CaughtHand all = Edges.richButNoTape();
        all.image();
        for (int k = 0; k < calls.length; k++) {
            CaughtHand x = Edges.richButNoTape();
            x.image();
            calls[k].on(x);
            due.is("restore", x.restore(), 1);
            due.so("as it was ahead of call " + k, Edges.allOf(x).equals(allOfRichAndItsImage()));
            calls[k].on(all);
        }
        all.restore();
        due.so("as it was ahead of all of them", Edges.allOf(all).equals(allOfRichAndItsImage()));
    }

    private static String allOfRichAndItsImage() {
        CaughtHand x = Edges.richButNoTape();
        x.image();
        return Edges.allOf(x);
    }

    private static void sheetsAndTapeStay() {
        CaughtHand x = edges.with("p0765432@0");
        x.sheet(0, 2, 5);
        x.sheet(1, 2, 2);
        x.type('p');
        x.image();
        x.drop(0);
        x.item(1, 2, 1, 765432);
        x.sheet(2, 2, 24);
        x.type('5');
        x.restore();
        due.is("a dropped one", x.drop(0), -11);
        due.is("an item", x.lasted(0, 1, 2, 0, 1), Edges.EVERY_L);
        due.is("a new one", x.drop(2), 24);
        due.is("letters", x.type('x'), 3);
        due.is("their order", x.office(), -22);
    }

    private static void againAndAgain() {
        CaughtHand x = behind(4);
        x.image();
        String then = Due.stateOf(x);
        for (int k = 0; k < 4; k++) {
            x.days(k + 1);
            x.sit(0, k);
            due.is("restore", x.restore(), 1);
            due.so("as it was", Due.stateOf(x).equals(then));
        }
        x.undo();
        x.restore();
        due.so("as it was ahead of an undone day", Due.stateOf(x).equals(then));
        x.days(1);
        due.is("and goes on", x.undo(), 4);
        due.so("from there", Due.stateOf(x).equals(then));
    }
}
