/** Promises 31 to 36, sheets: a test for each sentence that names an edge. */
public final class EdgeSheetsTest {
    private static final int BAD = -1, NOT = -2, NULL = -11, CAST = -12, INDEX = -13, SIZE = -14;
    private static final int LEAST = Integer.MIN_VALUE, GREATEST = Integer.MAX_VALUE;
    private static final int MOST_ITEMS = 24;
    private static final Due due = new Due();
    private static final Edges edges = new Edges(due);

    public static void main(String[] args) {
        all().end();
    }

    static Due all() {
        lasted();
        lastedRefused();
        films();
        newSheets();
        drops();
        items();
        copies();
        return due;
    }

    /** People who write 765432 and 77 whatever comes, and an empty sheet of that lane. */
    private static CaughtHand with(int lane, int n) {
        CaughtHand x = edges.with("p0765432@0,p0000077@7;" + Edges.WET);
        x.sheet(0, lane, n);
        return x;
    }

    /** Whether an item is that paper, as the second one of a pair from the item ahead of it on, that item being a day. */
    private static boolean isPaper(CaughtHand x, int sheet, int lane, int i) {
        return x.lasted(1, sheet, lane, i - 1, 1) == Edges.EVERY_L;
    }

    // ---- promise 31

    private static void lasted() {
        due.part("31: LASTED of a PERSON"); edges.aPerson("person", (x, v) -> x.lasted(v, 0, 2, 0, 1));
        due.part("31: of a SHEET (0 .. 3)"); edges.within("sheet", 0, 3, (x, v) -> x.lasted(0, v, 2, 0, 1));
        due.part("31: of a LANE (0 .. 3)"); edges.within("lane", 0, 3, (x, v) -> x.lasted(0, 0, v, 0, 1));
        due.part("31: n papers (1 .. 8)"); edges.within("n", 1, 8, (x, v) -> x.lasted(0, 0, 2, 0, v));
        due.part("31: nothing is changed"); edges.foretells("lasted", x -> x.lasted(0, 0, 2, 0, 3)); edges.foretells("lasted", x -> x.lasted(1, 0, 2, 0, 3));
        due.part("31: L (1 .. 30, as bits 1 .. 30)"); leastAndGreatestL();
        due.part("31: so of all"); soOfAll();
        due.part("31: what was taken already stays as it is"); takenStays();
        due.part("31: two items each: how many DAYS on (0 .. 60)"); daysOn();
        due.part("31: two items each: and the paper"); theirPapers();
        due.part("31: of every LANE"); lastedOfEveryLane();
    }

    private static int lastedOf(CaughtHand x, int person, int... papers) {
        x.sheet(0, 3, papers.length);
        for (int i = 0; i < papers.length; i++) {
            x.item(0, 3, i, papers[i]);
        }
        return x.lasted(person, 0, 3, 0, papers.length / 2);
    }

    /** All L from the least to the greatest. */
    private static int from(int least, int greatest) {
        int set = 0;
        for (int l = least; l <= greatest; l++) {
            set |= 1 << l;
        }
        return set;
    }

    private static void leastAndGreatestL() {
        CaughtHand x = edges.with("p0000000@0,p9100000@1;r");
        due.is("always", lastedOf(x, 0, 1, 100000), from(1, 30));
        due.is("never", lastedOf(x, 0, 1, 0), 0);
        for (int n = 2; n <= 30; n++) {
            due.is("still so behind " + n, lastedOf(x, 0, n, 100000), from(n, 30));
            due.is("no longer behind " + n, lastedOf(x, 0, n, 0), from(1, n - 1));
        }
        due.is("only with 1", lastedOf(x, 0, 2, 0), 2);
        due.is("only with 30", lastedOf(x, 0, 30, 100000), 1 << 30);
        CaughtHand strong = edges.with("p0000000@0,s9100000@1;r");
        due.is("of a strong one", lastedOf(strong, 0, 29, 100000), from(15, 30));
        due.is("of a strong one", lastedOf(strong, 0, 28, 100000), from(14, 30));
        due.is("till day 60 with 30, with 15 till 30 and anew", lastedOf(strong, 0, 60, 100000), 1 << 15 | 1 << 30);
        CaughtHand teacher = edges.with("p0000000@0,t9100000@1;r");
        due.is("of a teacher", lastedOf(teacher, 0, 9, 100000), from(1, 30));
        due.is("of a teacher", lastedOf(teacher, 0, 10, 100000), from(2, 30));
    }

    private static void soOfAll() {
        CaughtHand x = edges.with("p0000000@0,p9100000@1;r");
        due.is("from 5 to 9", lastedOf(x, 0, 5, 100000, 10, 0), from(5, 9));
        due.is("in another order", lastedOf(x, 0, 10, 0, 5, 100000), from(5, 9));
        due.is("just one", lastedOf(x, 0, 7, 100000, 8, 0), 1 << 7);
        due.is("both cannot be", lastedOf(x, 0, 8, 100000, 8, 0), 0);
        due.is("eight, all so", lastedOf(x, 0, 0, 0, 1, 100000, 2, 100000, 3, 100000, 4, 100000, 31, 100000, 32, 100000, 0, 0), from(4, 30));
        due.is("eight, the last is not", lastedOf(x, 0, 0, 0, 1, 100000, 2, 100000, 3, 100000, 4, 100000, 31, 100000, 32, 100000, 0, 1), 0);
        due.is("eight, the first is not", lastedOf(x, 0, 0, 1, 1, 100000, 2, 100000, 3, 100000, 4, 100000, 31, 100000, 32, 100000, 0, 0), 0);
    }

    private static void takenStays() {
        CaughtHand x = edges.with("p0000000@0,p9100000@1;r");
        x.lasting(5);
        x.days(1);
        due.is("still so", lastedOf(x, 0, 4, 100000), from(1, 30));
        due.is("its own again", lastedOf(x, 0, 5, 0), from(1, 30));
        due.is("not its own", lastedOf(x, 0, 4, 0), 0);
        x.lasting(30);
        due.is("whatever L is now", lastedOf(x, 0, 5, 0), from(1, 30));
        due.is("L is as it was", x.count(4), 30);
        due.is("taken anew", lastedOf(x, 0, 39, 100000), from(10, 30));
    }

    private static void daysOn() {
        CaughtHand x = edges.with("p0000000@0,p9100000@1;..............................");
        due.is("0", lastedOf(x, 0, 0, 0), from(1, 30));
        due.is("60", lastedOf(x, 0, 60, 0), from(1, 30));
        due.is("61", lastedOf(x, 0, 61, 0), NOT);
        due.is("-1", lastedOf(x, 0, -1, 0), NOT);
        due.is("very many", lastedOf(x, 0, GREATEST, 0), NOT);
        due.is("very few", lastedOf(x, 0, LEAST, 0), NOT);
        CaughtHand far = edges.with("p1000000@0,s2000000@1,s3000000@2,t4100000@3;r");
        due.is("nothing behind 60", lastedOf(far, 0, 60, 0), from(1, 30));
        far.days(1);
        due.is("nothing behind 59", lastedOf(far, 0, 59, 0), from(1, 30));
        due.is("behind 60", lastedOf(far, 0, 60, 100000), from(16, 30));
    }

    private static void theirPapers() {
        CaughtHand x = edges.with("p0777777@0,p0000000@7;" + Edges.WET);
        due.is("the greatest", lastedOf(x, 0, 60, 777777), from(1, 30));
        due.is("the least", lastedOf(x, 1, 60, 0), from(1, 30));
        int[] not = {-1, 777778, 777779, 777780, 8, 9, 18, 80, 800, 8000, 80000, 800000, 900000, 1000000, 1777777, LEAST, GREATEST};
        for (int paper : not) {
            due.is("paper " + paper, lastedOf(x, 0, 0, paper), NOT);
        }
        due.is("of another person's", lastedOf(x, 1, 60, 777777), 0);
    }

    private static void lastedOfEveryLane() {
        for (int lane = 0; lane < 4; lane++) {
            CaughtHand x = with(lane, 6);
            x.item(0, lane, 2, 60);
            x.item(0, lane, 3, 77);
            x.item(0, lane, 4, 61);
            due.is("a paper of lane " + lane, x.lasted(1, 0, lane, 2, 1), Edges.EVERY_L);
            due.is("of the other person", x.lasted(0, 0, lane, 2, 1), 0);
            due.is("61 days", x.lasted(1, 0, lane, 4, 1), NOT);
            due.is("both", x.lasted(1, 0, lane, 2, 2), NOT);
        }
        CaughtHand l = with(3, 4);
        l.item(0, 3, 0, 1L << 32);
        due.is("a day of more than 32 bits", l.lasted(0, 0, 3, 0, 1), NOT);
        l.item(0, 3, 0, Long.MIN_VALUE);
        due.is("the least day", l.lasted(0, 0, 3, 0, 1), NOT);
        l.item(0, 3, 0, 0);
        l.item(0, 3, 1, (1L << 32) + 765432);
        due.is("a paper of more than 32 bits", l.lasted(0, 0, 3, 0, 1), NOT);
        l.item(0, 3, 1, (1L << 63) + 765432);
        due.is("a paper with a sign", l.lasted(0, 0, 3, 0, 1), NOT);
        l.item(0, 3, 1, 765432);
        due.is("without it", l.lasted(0, 0, 3, 0, 1), Edges.EVERY_L);
    }

    private static void lastedRefused() {
        due.part("31: NULL"); edges.leavesAll("a sheet that holds nothing", NULL, x -> x.lasted(0, 2, 2, 0, 1));
        due.part("31: CAST"); lastedCast();
        due.part("31: INDEX"); lastedIndex();
        due.part("31: NOT: an item is not as told"); lastedNot();
        due.part("31: BAD ahead of all others, then NULL, CAST, INDEX, NOT"); lastedInOrder();
    }

    private static void lastedCast() {
        for (int lane = 0; lane < 4; lane++) {
            for (int other = 0; other < 4; other++) {
                due.is("lane " + lane + " as " + other, with(lane, 2).lasted(0, 0, other, 0, 1), lane == other ? 0 : CAST);
            }
        }
    }

    private static void lastedIndex() {
        int[][] in = {{24, 0, 8}, {24, 8, 8}, {24, 22, 1}, {2, 0, 1}, {3, 1, 1}, {16, 0, 8}, {17, 1, 8}};
        int[][] out = {{24, 9, 8}, {24, 23, 1}, {24, 24, 1}, {24, 25, 1}, {1, 0, 1}, {0, 0, 1}, {15, 0, 8}, {16, 1, 8}, {24, -1, 1}, {24, -2, 2},
            {24, LEAST, 8}, {24, GREATEST, 8}, {24, GREATEST - 15, 8}, {24, GREATEST - 1, 1}};
        for (int[] r : in) {
            due.is(r[2] + " papers of " + r[0] + " from " + r[1], with(2, r[0]).lasted(0, 0, 2, r[1], r[2]), 0);
        }
        for (int[] r : out) {
            due.is(r[2] + " papers of " + r[0] + " from " + r[1], with(2, r[0]).lasted(0, 0, 2, r[1], r[2]), INDEX);
        }
    }

    private static void lastedNot() {
        for (int wrong = 0; wrong < 16; wrong++) {
            CaughtHand x = with(2, 16);
            x.item(0, 2, wrong, -1);
            due.is("item " + wrong, x.lasted(0, 0, 2, 0, 8), NOT);
            if (wrong > 1) {
                due.is("ahead of it", x.lasted(0, 0, 2, 0, wrong / 2), 0);
            }
            if (wrong < 14) {
                due.is("behind it", x.lasted(0, 0, 2, wrong + 2 - wrong % 2, 7 - wrong / 2), 0);
            }
        }
        edges.leavesAll("an item that is none", NOT, x -> x.lasted(0, 0, 2, 1, 1));
    }

    private static void lastedInOrder() {
        CaughtHand none = edges.with("p0000000@0");
        due.is("no person, nothing", none.lasted(1, 0, 0, 0, 1), BAD);
        due.is("no such sheet", none.lasted(0, 4, 0, 0, 1), BAD);
        due.is("no such lane, nothing", none.lasted(0, 0, 4, 0, 1), BAD);
        due.is("nine papers, nothing", none.lasted(0, 0, 0, 0, 9), BAD);
        due.is("no papers, nothing", none.lasted(0, 0, 0, 0, 0), BAD);
        due.is("nothing, no index", none.lasted(0, 0, 0, -1, 1), NULL);
        CaughtHand x = with(2, 2);
        x.item(0, 2, 0, 99);
        due.is("nine papers of another lane", x.lasted(0, 0, 1, 0, 9), BAD);
        due.is("another lane, no index", x.lasted(0, 0, 1, 9, 1), CAST);
        due.is("another lane, an item that is none", x.lasted(0, 0, 1, 0, 1), CAST);
        due.is("no index, an item that is none", x.lasted(0, 0, 2, 0, 2), INDEX);
        due.is("an item that is none", x.lasted(0, 0, 2, 0, 1), NOT);
        due.is("nobody, an item that is none", x.lasted(2, 0, 2, 0, 1), BAD);
        due.is("nine papers, no index", x.lasted(0, 0, 2, -1, 9), BAD);
    }

    // ---- promise 32

    private static void films() {
        due.part("32: How one WRITES"); edges.aPerson("person", (x, v) -> x.film(v, 1, 0, 2, 0));
        due.part("32: n DAYS (1 .. 24)"); edges.within("n", 1, 24, (x, v) -> x.film(0, v, 0, 2, 0));
        due.part("32: a SHEET (0 .. 3)"); edges.within("sheet", 0, 3, (x, v) -> x.film(0, 1, v, 2, 0));
        due.part("32: a LANE (0 .. 3)"); edges.within("lane", 0, 3, (x, v) -> x.film(0, 1, 0, v, 0));
        due.part("32: behind 1, 2, .. n DAYS, an item each: n"); frames();
        due.part("32: the items beside stay, and all else"); framesBeside();
        due.part("32: likewise (its lowest bits)"); frameBits();
        due.part("32: NULL"); edges.leavesAll("a sheet that holds nothing", NULL, x -> x.film(0, 1, 2, 2, 0));
        due.part("32: CAST"); filmCast();
        due.part("32: INDEX"); filmIndex();
        due.part("32: BAD ahead of all others, then NULL, CAST, INDEX"); filmInOrder();
    }

    private static void frames() {
        for (int n : new int[] {1, 2, 23, 24}) {
            CaughtHand x = edges.with("p0000000@0,p9123456@1;" + Edges.WET);
            x.lasting(20);
            x.sheet(0, 2, 24);
            due.is("film", x.film(0, n, 0, 2, 24 - n), n);
            x.sheet(1, 2, 2);
            for (int k = 1; k <= n; k++) {
                x.item(1, 2, 0, k);
                x.copy(0, 24 - n + k - 1, 1, 1, 1);
                due.so("frame " + k + " of " + n, (x.lasted(0, 1, 2, 0, 1) >> 20 & 1) == 1);
            }
        }
        CaughtHand first = edges.with("p0000000@0,p9000001@1;r");
        first.sheet(0, 2, 2);
        first.film(0, 1, 0, 2, 1);
        first.person(0, 0, 1, 7);
        due.is("the first frame is behind one day", first.lasted(2, 0, 2, 0, 1), Edges.EVERY_L);
    }

    private static void framesBeside() {
        CaughtHand x = with(2, 8);
        for (int i = 0; i < 8; i++) {
            x.item(0, 2, i, i % 2 == 0 ? 0 : 77);
        }
        due.is("film", x.film(0, 2, 0, 2, 3), 2);
        due.is("ahead of it", x.lasted(1, 0, 2, 0, 1), Edges.EVERY_L);
        due.is("behind it", x.lasted(1, 0, 2, 6, 1), Edges.EVERY_L);
        due.is("next to it", x.lasted(1, 0, 2, 2, 1), 0);
        due.is("the first frame", x.lasted(0, 0, 2, 2, 1), Edges.EVERY_L);
        due.is("the second frame is no day", x.lasted(1, 0, 2, 4, 1), NOT);
        x.item(0, 2, 4, 0);
        due.is("the item behind it", x.lasted(1, 0, 2, 4, 1), Edges.EVERY_L);
        CaughtHand filmed = Edges.rich();
        CaughtHand same = Edges.rich();
        due.is("film", filmed.film(2, 2, 0, 2, 5), 2);
        same.item(0, 2, 5, 77);
        same.item(0, 2, 6, 77);
        due.so("all else stays", Edges.allOf(filmed).equals(Edges.allOf(same)));
    }

    private static void frameBits() {
        int[][] bytes = {{0, 0}, {77, 77}, {127, 127}, {130, -126}, {200, -56}, {255, -1}, {256, 0}, {257, 1}, {333, 77}, {377, 121}, {777777, 49}};
        for (int[] b : bytes) {
            frameIs(0, b[0], b[1]);
        }
        int[][] shorts = {{127, 127}, {256, 256}, {32767, 32767}, {32770, -32766}, {65535, -1}, {65536, 0}, {65613, 77}, {77777, 12241}, {777777, -8655}};
        for (int[] s : shorts) {
            frameIs(1, s[0], s[1]);
        }
        for (int lane = 2; lane < 4; lane++) {
            for (int hand : new int[] {0, 77, 256, 32770, 65613, 777777}) {
                frameIs(lane, hand, hand);
            }
        }
    }

    /** The frame of a person alone with that hand comes to a sheet as that item. */
    private static void frameIs(int lane, int hand, int item) {
        CaughtHand x = new CaughtHand();
        due.is("person", x.person(0, 0, hand, 0), 0);
        x.sheet(0, lane, 2);
        x.film(0, 1, 0, lane, 1);
        int person = x.person(0, 0, item, 7);
        if (person < 0) {
            due.is(hand + " in lane " + lane, x.lasted(0, 0, lane, 0, 1), NOT);
        } else {
            due.is(hand + " in lane " + lane + " is " + item, x.lasted(person, 0, lane, 0, 1), Edges.EVERY_L);
        }
    }

    private static void filmCast() {
        for (int lane = 0; lane < 4; lane++) {
            for (int other = 0; other < 4; other++) {
                due.is("lane " + lane + " as " + other, with(lane, 2).film(0, 1, 0, other, 0), lane == other ? 1 : CAST);
            }
        }
        edges.leavesAll("of another lane", CAST, x -> x.film(0, 1, 0, 3, 0));
    }

    private static void filmIndex() {
        int[][] in = {{24, 0, 24}, {24, 23, 1}, {24, 8, 16}, {1, 0, 1}, {2, 1, 1}};
        int[][] out = {{24, 1, 24}, {24, 24, 1}, {24, 25, 1}, {23, 0, 24}, {0, 0, 1}, {1, 1, 1}, {1, 0, 2}, {24, -1, 1}, {24, -1, 24}, {24, LEAST, 1},
            {24, GREATEST, 1}, {24, GREATEST, 24}, {24, GREATEST - 23, 24}};
        for (int[] r : in) {
            due.is(r[2] + " frames on " + r[0] + " from " + r[1], with(2, r[0]).film(0, r[2], 0, 2, r[1]), r[2]);
        }
        for (int[] r : out) {
            due.is(r[2] + " frames on " + r[0] + " from " + r[1], with(2, r[0]).film(0, r[2], 0, 2, r[1]), INDEX);
        }
        edges.leavesAll("one frame too many", INDEX, x -> x.film(0, 7, 0, 2, 1));
        edges.leavesAll("from below", INDEX, x -> x.film(0, 2, 0, 2, -1));
    }

    private static void filmInOrder() {
        CaughtHand x = with(2, 2);
        due.is("nobody, nothing", x.film(2, 1, 1, 2, 0), BAD);
        due.is("25 days, nothing", x.film(0, 25, 1, 2, 0), BAD);
        due.is("no days, another lane", x.film(0, 0, 0, 1, 0), BAD);
        due.is("no such lane, no index", x.film(0, 1, 0, 4, 9), BAD);
        due.is("no such sheet, no index", x.film(0, 1, 4, 2, 9), BAD);
        due.is("25 days, no index", x.film(0, 25, 0, 2, -1), BAD);
        due.is("nothing, no index", x.film(0, 1, 1, 2, -1), NULL);
        due.is("another lane, no index", x.film(0, 1, 0, 1, -1), CAST);
        due.is("no index", x.film(0, 1, 0, 2, -1), INDEX);
    }

    // ---- promise 33

    private static void newSheets() {
        due.part("33: A SHEET (0 .. 3)"); edges.within("sheet", 0, 3, (x, v) -> x.sheet(v, 2, 3));
        due.part("33: a LANE (0 .. 3)"); edges.within("lane", 0, 3, (x, v) -> x.sheet(0, v, 3));
        due.part("33: 0 to 24 items; BAD: also n above 24"); itemsOfNewSheets();
        due.part("33: SIZE: n below 0"); sizesBelowZero();
        due.part("33: holds a new row of a LANE: n"); newRow();
        due.part("33: each SHEET by itself"); eachByItself();
        due.part("33: BAD ahead of all others"); badAheadOfSize();
    }

    private static void itemsOfNewSheets() {
        for (int n = 0; n <= MOST_ITEMS; n++) {
            CaughtHand x = new CaughtHand();
            due.is("sheet of " + n, x.sheet(3, 1, n), n);
            if (n > 0) {
                due.is("the last item", x.item(3, 1, n - 1, 5), 1);
            }
            due.is("one behind it", x.item(3, 1, n, 5), INDEX);
            due.is("drop", x.drop(3), n);
        }
        for (int n : new int[] {25, 26, 100, GREATEST}) {
            edges.leavesAll("sheet of " + n, BAD, x -> x.sheet(0, 2, n));
        }
    }

    private static void sizesBelowZero() {
        for (int n : new int[] {-1, -2, -24, LEAST}) {
            edges.leavesAll("sheet of " + n, SIZE, x -> x.sheet(0, 2, n));
            edges.leavesAll("an empty sheet of " + n, SIZE, x -> x.sheet(2, 2, n));
        }
    }

    private static void newRow() {
        for (int lane = 0; lane < 4; lane++) {
            CaughtHand x = edges.with("p0000000@0,p0000077@1");
            x.sheet(1, 2, 24);
            for (int i = 0; i < 24; i++) {
                x.item(1, 2, i, 61);
            }
            due.is("a new row", x.sheet(1, lane, 24), 24);
            for (int i = 0; i < 24; i += 2) {
                due.is("its items are 0", x.lasted(0, 1, lane, i, 1), Edges.EVERY_L);
            }
            due.is("of its lane", x.item(1, lane == 2 ? 3 : 2, 0, 0), CAST);
            x.item(1, lane, 1, 77);
            due.is("another one, shorter", x.sheet(1, lane, 2), 2);
            due.is("its items are 0", x.lasted(0, 1, lane, 0, 1), Edges.EVERY_L);
            due.is("no third one", x.item(1, lane, 2, 0), INDEX);
            due.is("the others hold nothing", x.drop(0), NULL);
        }
    }

    private static void eachByItself() {
        for (int changed = 0; changed < 4; changed++) {
            for (int lane = 0; lane < 4; lane++) {
                CaughtHand x = edges.with("p0000077@0");
                for (int sheet = 0; sheet < 4; sheet++) {
                    x.sheet(sheet, lane, 4);
                    x.item(sheet, lane, 1, 77);
                    x.item(sheet, lane, 3, 77);
                }
                x.item(changed, lane, 1, 5);
                othersStay(x, changed, lane);
                x.film(0, 1, changed, lane, 1);
                x.copy(changed, 2, changed, 0, 2);
                x.sheet(changed, 3 - lane, 24);
                othersStay(x, changed, lane);
                due.is("drop", x.drop(changed), 24);
                othersStay(x, changed, lane);
            }
        }
    }

    private static void othersStay(CaughtHand x, int changed, int lane) {
        for (int sheet = 0; sheet < 4; sheet++) {
            if (sheet != changed) {
                due.is("sheet " + sheet, x.lasted(0, sheet, lane, 0, 2), Edges.EVERY_L);
            }
        }
    }

    private static void badAheadOfSize() {
        due.is("no such sheet", new CaughtHand().sheet(4, 0, -1), BAD);
        due.is("no such sheet", new CaughtHand().sheet(-1, 0, -1), BAD);
        due.is("no such lane", new CaughtHand().sheet(0, 4, -1), BAD);
        due.is("no such lane", new CaughtHand().sheet(0, -1, -1), BAD);
    }

    // ---- promise 34

    private static void drops() {
        due.part("34: A SHEET (0 .. 3)"); edges.within("sheet", 0, 3, (x, v) -> x.drop(v));
        due.part("34: holds nothing: how many items it had"); dropped();
        due.part("34: NULL"); edges.leavesAll("a sheet that holds nothing", NULL, x -> x.drop(2));
    }

    private static void dropped() {
        for (int n : new int[] {0, 1, 23, 24}) {
            for (int sheet = 0; sheet < 4; sheet++) {
                for (int lane = 0; lane < 4; lane++) {
                    dropOf(sheet, lane, n);
                }
            }
        }
    }

    private static void dropOf(int sheet, int lane, int n) {
        CaughtHand x = edges.with("p0000000@0");
        x.sheet(sheet, lane, n);
        for (int other = 0; other < 4; other++) {
            due.is("the others hold nothing", x.drop(other), other == sheet ? n : NULL);
        }
        due.is("nothing", x.drop(sheet), NULL);
        due.is("nothing", x.item(sheet, lane, 0, 0), NULL);
        due.is("nothing", x.lasted(0, sheet, lane, 0, 1), NULL);
        due.is("nothing", x.film(0, 1, sheet, lane, 0), NULL);
        due.is("nothing", x.copy(sheet, 0, sheet, 0, 0), NULL);
        due.is("anew", x.sheet(sheet, lane, n), n);
        due.is("drop", x.drop(sheet), n);
    }

    // ---- promise 35

    private static void items() {
        due.part("35: a SHEET (0 .. 3)"); edges.within("sheet", 0, 3, (x, v) -> x.item(v, 2, 0, 0));
        due.part("35: a LANE (0 .. 3)"); edges.within("lane", 0, 3, (x, v) -> x.item(0, v, 0, 0));
        due.part("35: becomes v, its lowest bits (all with a sign)"); lowestBits();
        due.part("35: Item i: 1"); itemAt();
        due.part("35: NULL"); edges.leavesAll("a sheet that holds nothing", NULL, x -> x.item(2, 2, 0, 5));
        due.part("35: CAST"); itemCast();
        due.part("35: INDEX"); itemIndex();
        due.part("35: BAD ahead of all others, then NULL, CAST, INDEX"); itemInOrder();
    }

    private static void lowestBits() {
        for (int lane = 0; lane < 4; lane++) {
            int bits = 8 << lane;
            long[] values = {77, -1, 128 + 77, 256 + 77, (1L << 15) + 77, (1L << 16) + 77, (1L << 31) + 77, (1L << 32) + 77, (1L << 63) + 77, -256 + 77,
                -65536 + 77, -(1L << 32) + 77, Long.MAX_VALUE - 255 + 77, (1L << 7) + 77, (1L << 62) + 77};
            for (long value : values) {
                long rest = bits == 64 ? value : value << 64 - bits >> 64 - bits;
                CaughtHand x = with(lane, 2);
                due.is("item " + value, x.item(0, lane, 1, value), 1);
                due.is(value + " in lane " + lane, x.lasted(1, 0, lane, 0, 1), rest == 77 ? Edges.EVERY_L : isSix(rest) ? 0 : NOT);
            }
        }
        int[][] ends = {{0, 127, 128}, {1, 32767, 32770}};
        for (int[] end : ends) {
            CaughtHand x = edges.with("p0000127@0,p0032767@2");
            x.sheet(0, end[0], 2);
            x.item(0, end[0], 1, end[1]);
            due.is("the greatest", x.lasted(end[0], 0, end[0], 0, 1), Edges.EVERY_L);
            x.item(0, end[0], 1, end[2]);
            due.is("one above it is below 0", x.lasted(end[0], 0, end[0], 0, 1), NOT);
        }
    }

    private static boolean isSix(long value) {
        boolean so = value >= 0 && value <= 777777;
        for (long rest = value; rest > 0; rest /= 10) {
            so &= rest % 10 < 8;
        }
        return so;
    }

    private static void itemAt() {
        for (int i = 1; i < 24; i++) {
            CaughtHand x = with(2, 24);
            due.is("item " + i, x.item(0, 2, i, 77), 1);
            due.so("is it", isPaper(x, 0, 2, i));
            due.so("the one behind is not", i == 23 || !isPaper(x, 0, 2, i + 1));
        }
        CaughtHand x = with(2, 24);
        x.item(0, 2, 0, 61);
        due.is("the first item is no day", x.lasted(1, 0, 2, 0, 1), NOT);
        due.is("the second is", x.lasted(1, 0, 2, 1, 1), 0);
    }

    private static void itemCast() {
        for (int lane = 0; lane < 4; lane++) {
            for (int other = 0; other < 4; other++) {
                due.is("lane " + lane + " as " + other, with(lane, 2).item(0, other, 0, 5), lane == other ? 1 : CAST);
            }
        }
        edges.leavesAll("of another lane", CAST, x -> x.item(0, 3, 0, 5));
    }

    private static void itemIndex() {
        for (int i : new int[] {-1, 7, 8, 24, LEAST, GREATEST}) {
            edges.leavesAll("item " + i, INDEX, x -> x.item(0, 2, i, 5));
        }
        for (int lane = 0; lane < 4; lane++) {
            for (int n : new int[] {0, 1, 2, 23, 24}) {
                CaughtHand x = with(lane, n);
                for (int i = -1; i <= 25; i++) {
                    due.is("item " + i + " of " + n, x.item(0, lane, i, 5), i >= 0 && i < n ? 1 : INDEX);
                }
            }
        }
    }

    private static void itemInOrder() {
        CaughtHand x = with(2, 2);
        due.is("no such sheet", x.item(4, 2, 9, 5), BAD);
        due.is("no such lane, nothing", x.item(1, 4, 9, 5), BAD);
        due.is("no such lane, no index", x.item(0, -1, 9, 5), BAD);
        due.is("nothing, no index", x.item(1, 2, -1, 5), NULL);
        due.is("another lane, no index", x.item(0, 1, -1, 5), CAST);
        due.is("no index", x.item(0, 2, -1, 5), INDEX);
    }

    // ---- promise 36

    private static void copies() {
        due.part("36: a SHEET from"); edges.within("from", 0, 3, (x, v) -> x.copy(v, 0, 0, 0, 0));
        due.part("36: a SHEET to"); edges.within("to", 0, 3, (x, v) -> x.copy(0, 0, v, 0, 0));
        due.part("36: n items from i on come to another one from j on: n"); copied();
        due.part("36: (or the same), as if all were taken ahead"); takenAhead();
        due.part("36: NULL (either)"); copyNull();
        due.part("36: CAST: of unlike LANES"); copyCast();
        due.part("36: INDEX (n below 0, too; also where no item is taken)"); copyIndex();
        due.part("36: BAD ahead of all others, then NULL, CAST, INDEX"); copyInOrder();
    }

    private static void copied() {
        for (int lane = 0; lane < 4; lane++) {
            for (int n : new int[] {0, 1, 2, 22, 23, 24}) {
                CaughtHand x = numbered(0, lane);
                x.sheet(2, lane, 24);
                int[] want = new int[24];
                for (int k = 0; k < n; k++) {
                    want[k] = number(24 - n + k);
                }
                due.is("the last " + n, x.copy(0, 24 - n, 2, 0, n), n);
                rowIs(x, 2, lane, want);
            }
        }
        CaughtHand x = numbered(0, 2);
        x.sheet(1, 2, 3);
        due.is("to a shorter one", x.copy(0, 20, 1, 1, 2), 2);
        rowIs(x, 1, 2, new int[] {0, number(20), number(21)});
        x.item(0, 2, 20, 7);
        due.is("none", x.copy(0, 20, 1, 1, 0), 0);
        rowIs(x, 1, 2, new int[] {0, number(20), number(21)});
        CaughtHand from = numbered(0, 2);
        from.sheet(3, 2, 24);
        from.copy(0, 0, 3, 0, 24);
        from.copy(0, 5, 3, 9, 3);
        rowIs(from, 0, 2, numbers());
    }

    private static void takenAhead() {
        for (int by : new int[] {-22, -2, -1, 0, 1, 2, 11, 22}) {
            for (int lane = 0; lane < 4; lane++) {
                CaughtHand x = numbered(1, lane);
                int n = 24 - Math.max(by, -by);
                int i = Math.max(0, -by);
                int[] want = numbers();
                for (int k = 0; k < n; k++) {
                    want[i + by + k] = number(i + k);
                }
                due.is("by " + by, x.copy(1, i, 1, i + by, n), n);
                rowIs(x, 1, lane, want);
            }
        }
    }

    /** A different paper, and a day, for each item of a sheet. */
    private static int number(int i) {
        return i / 7 * 10 + i % 7 + 1;
    }

    private static int[] numbers() {
        int[] all = new int[24];
        for (int i = 0; i < 24; i++) {
            all[i] = number(i);
        }
        return all;
    }

    private static CaughtHand numbered(int sheet, int lane) {
        CaughtHand x = new CaughtHand();
        x.sheet(sheet, lane, 24);
        for (int i = 0; i < 24; i++) {
            x.item(sheet, lane, i, number(i));
        }
        return x;
    }

    /** Each item but the first is read as a paper, the one ahead of it as a day, of a person alone who writes that. */
    private static void rowIs(CaughtHand x, int sheet, int lane, int[] want) {
        for (int i = 1; i < want.length; i++) {
            Due.officeOf(x, "p00000" + want[i] / 10 + want[i] % 10 + "@0");
            due.is("item " + i + " is " + want[i], x.lasted(0, sheet, lane, i - 1, 1), Edges.EVERY_L);
        }
    }

    private static void copyNull() {
        edges.leavesAll("from nothing", NULL, x -> x.copy(2, 0, 0, 0, 0));
        edges.leavesAll("to nothing", NULL, x -> x.copy(0, 0, 2, 0, 0));
        edges.leavesAll("from nothing to nothing", NULL, x -> x.copy(2, 0, 2, 0, 0));
    }

    private static void copyCast() {
        for (int lane = 0; lane < 4; lane++) {
            for (int other = 0; other < 4; other++) {
                CaughtHand x = new CaughtHand();
                x.sheet(0, lane, 4);
                x.sheet(3, other, 4);
                due.is("lane " + lane + " to " + other, x.copy(0, 0, 3, 0, 2), lane == other ? 2 : CAST);
                due.is("none of lane " + lane + " to " + other, x.copy(3, 0, 0, 0, 0), lane == other ? 0 : CAST);
            }
        }
        edges.leavesAll("of unlike lanes", CAST, x -> x.copy(0, 0, 3, 0, 1));
    }

    private static void copyIndex() {
        int[][] in = {{0, 0, 0}, {6, 4, 0}, {0, 4, 0}, {6, 0, 0}, {0, 0, 4}, {2, 0, 4}, {5, 3, 1}};
        int[][] out = {{-1, 0, 0}, {0, -1, 0}, {7, 0, 0}, {0, 5, 0}, {0, 0, -1}, {0, 0, 5}, {3, 0, 4}, {2, 1, 4}, {6, 0, 1}, {0, 4, 1}, {-1, 0, 1}, {0, -1, 1},
            {1, 1, -1}, {6, 4, -1}};
        int[][] outOfSeven = {{-1, 0, 0}, {0, -1, 0}, {8, 0, 0}, {0, 8, 0}, {0, 0, -1}, {0, 0, 8}, {1, 0, 7}, {0, 1, 7}, {7, 0, 1}, {0, 7, 1}, {2, 2, -1},
            {LEAST, 0, 1}, {0, LEAST, 1}, {0, 0, LEAST}, {GREATEST, 0, 1}, {0, GREATEST, 1}, {0, 0, GREATEST}, {GREATEST, GREATEST, GREATEST},
            {1, 1, GREATEST}, {GREATEST, 0, 0}, {0, GREATEST, 0}, {LEAST, LEAST, LEAST}};
        for (int[] c : in) {
            due.is("copy " + c[0] + " " + c[1] + " " + c[2], sixAndFour().copy(0, c[0], 1, c[1], c[2]), c[2]);
        }
        for (int[] c : out) {
            due.is("copy " + c[0] + " " + c[1] + " " + c[2], sixAndFour().copy(0, c[0], 1, c[1], c[2]), INDEX);
        }
        for (int[] c : outOfSeven) {
            edges.leavesAll("on itself " + c[0] + " " + c[1] + " " + c[2], INDEX, x -> x.copy(0, c[0], 0, c[1], c[2]));
        }
        edges.leavesAll("none on itself, at the end", 0, x -> x.copy(0, 7, 0, 7, 0));
        edges.leavesAll("all on itself", 7, x -> x.copy(0, 0, 0, 0, 7));
    }

    private static CaughtHand sixAndFour() {
        CaughtHand x = new CaughtHand();
        x.sheet(0, 3, 6);
        x.sheet(1, 3, 4);
        return x;
    }

    private static void copyInOrder() {
        CaughtHand x = sixAndFour();
        x.sheet(2, 1, 6);
        due.is("no such sheet, nothing", x.copy(4, 0, 3, 0, 0), BAD);
        due.is("nothing, no such sheet", x.copy(3, 0, 4, 0, 0), BAD);
        due.is("no such sheet, no index", x.copy(-1, 0, 0, 0, -1), BAD);
        due.is("nothing, no index", x.copy(0, -1, 3, 0, 0), NULL);
        due.is("another lane, no index", x.copy(0, -1, 2, 0, 0), CAST);
        due.is("another lane, below none", x.copy(0, 0, 2, 0, -1), CAST);
        due.is("no index", x.copy(0, 0, 1, 0, -1), INDEX);
    }
}
