/** Runs of calls drawn by a fixed seed: the class and the model must answer each of them alike. */
public final class RandomRunsTest {
    private static final int RUNS = 9000;
    /** Behind so many calls a run ends; the longest step and the last look keep it below the 512 of an object. */
    private static final int CALLS = 160;
    private static final int MOST_CALLS = 512;
    private static final Due due = new Due();
    private static long state = 20261119;

    public static void main(String[] args) {
        for (int run = 0; run < RUNS && due.wrong() == 0; run++) {
            due.part("run " + run);
            oneRun();
        }
        due.end();
    }

    private static void oneRun() {
        int begun = due.asked();
        CaughtHand x = new CaughtHand();
        Model m = new Model();
        if (upTo(8) > 0) {
            text(x, m, drawnOffice());
        }
        if (upTo(2) == 0) {
            int bits = (int) (drawn() & 0x3fffffff);
            due.is("weather " + bits, x.weather(bits), m.weather(bits));
        }
        if (upTo(2) == 0) {
            int l = 1 + upTo(upTo(2) == 0 ? 4 : 30);
            due.is("lasting " + l, x.lasting(l), m.lasting(l));
        }
        while (due.asked() - begun < CALLS && due.wrong() == 0) {
            int sort = upTo(100);
            if (sort < 34) {
                change(x, m);
            } else if (sort < 46) {
                pass(x, m);
            } else if (sort < 72) {
                ask(x, m);
            } else if (sort < 97) {
                sheets(x, m);
            } else {
                look(x, m);
            }
        }
        look(x, m);
        if (due.asked() - begun > MOST_CALLS) {
            due.so("a run keeps to the calls of an object", false);
        }
    }

    private static void change(CaughtHand x, Model m) {
        int a = number(4), b = number(10), c = row(), d = number(8);
        switch (upTo(12)) {
            case 0: case 1:
                due.is("person " + a + " " + b + " " + c + " " + d, x.person(a, b, c, d), m.person(a, b, c, d));
                break;
            case 2: case 3: case 4:
                a = someone(m);
                due.is("sit " + a + " " + d, x.sit(a, d), m.sit(a, d));
                break;
            case 5: case 6:
                a = number(2);
                due.is("dry " + d + " " + a, x.dry(d, a), m.dry(d, a));
                break;
            case 7:
                a = upTo(20) == 0 ? number(30) : (int) (drawn() & 0x3fffffff);
                due.is("weather " + a, x.weather(a), m.weather(a));
                break;
            case 8:
                a = number(31);
                due.is("lasting " + a, x.lasting(a), m.lasting(a));
                break;
            case 9:
                a = (int) drawn();
                due.is("seed " + a, x.seed(a), m.seed(a));
                break;
            case 10:
                a = 30 + upTo(98);
                due.is("type " + a, x.type(a), m.type(a));
                break;
            default:
                text(x, m, upTo(3) == 0 ? drawnOffice() : spoilt(drawnOffice()));
                break;
        }
    }

    private static void pass(CaughtHand x, Model m) {
        int n = upTo(6) == 0 ? number(61) : 1 + upTo(5);
        switch (upTo(8)) {
            case 0: case 1: case 2:
                due.is("days " + n, x.days(n), m.days(n));
                break;
            case 3: case 4:
                due.is("drift " + n, x.drift(n), m.drift(n));
                break;
            case 5:
                due.is("undo", x.undo(), m.undo());
                break;
            case 6:
                due.is("image", x.image(), m.image());
                break;
            default:
                due.is("restore", x.restore(), m.restore());
                break;
        }
    }

    private static void ask(CaughtHand x, Model m) {
        int p = someone(m), o = someone(m), n = upTo(3) == 0 ? number(61) : upTo(12), w = number(2), place = number(6);
        int paper = upTo(3) == 0 ? row() : m.writes(p, n);
        switch (upTo(13)) {
            case 0:
                due.is("writes " + p + " " + n, x.writes(p, n), m.writes(p, n));
                break;
            case 1:
                due.is("cheque " + p, x.cheque(p), m.cheque(p));
                break;
            case 2:
                o = number(7);
                due.is("out " + p + " " + o + " " + n, x.out(p, o, n), m.out(p, o, n));
                break;
            case 3:
                seats(x, m, p, place, number(8), Math.min(n, 9));
                break;
            case 4:
                due.is("who " + paper + " " + n, x.who(paper, n), m.who(paper, n));
                break;
            case 5: case 6:
                n = number(9);
                paper = upTo(4) == 0 ? row() : m.writes(p, n);
                due.is("likely " + p + " " + paper + " " + n + " " + w, x.likely(p, paper, n, w), m.likely(p, paper, n, w));
                break;
            case 7:
                due.is("most " + place + " " + n + " " + w, x.most(place, n, w), m.most(place, n, w));
                break;
            case 8:
                n = Math.min(n, 20);
                due.is("dryOut " + p + " " + n, x.dryOut(p, n), m.dryOut(p, n));
                break;
            case 9:
                due.is("forger " + p + " " + o + " " + n + " " + w, x.forger(p, o, n, w), m.forger(p, o, n, w));
                break;
            case 10:
                paper = mixed(m, p, o);
                due.is("two " + paper + " " + w, x.two(paper, w), m.two(paper, w));
                break;
            case 11:
                due.is("tree", x.tree(), m.tree());
                break;
            default:
                due.is("signature " + p, x.signature(p), m.signature(p));
                break;
        }
    }

    /** Seldom, for the model tries every two exchanges by making the office anew. */
    private static void seats(CaughtHand x, Model m, int p, int place, int stroke, int n) {
        if (upTo(3) > 0) {
            return;
        }
        int most = m.seats(p, place, stroke, n, 0);
        due.is("seats " + p + " " + place + " " + stroke + " " + n + " 0", x.seats(p, place, stroke, n, 0), most);
        for (int what = 1; what <= 2; what++) {
            String call = "seats " + p + " " + place + " " + stroke + " " + n + " " + what;
            due.is(call, x.seats(p, place, stroke, n, what), most == Model.BAD || most == Model.NONE ? most : m.seats(p, place, stroke, n, what));
        }
    }

    private static void sheets(CaughtHand x, Model m) {
        int s = upTo(3) > 0 ? upTo(2) : number(4), t = upTo(3) > 0 ? upTo(2) : number(4);
        int lane = upTo(8) > 0 && s >= 0 && s < 4 ? m.lanes[s] : number(4), i = number(12), p = someone(m);
        int n = number(9);
        switch (upTo(12)) {
            case 0:
                lane = upTo(2) == 0 ? 2 : number(4);
                n = upTo(3) == 0 ? number(26) : 12 + upTo(13);
                due.is("sheet " + s + " " + lane + " " + n, x.sheet(s, lane, n), m.sheet(s, lane, n));
                break;
            case 1:
                if (upTo(3) == 0) {
                    due.is("drop " + s, x.drop(s), m.drop(s));
                }
                break;
            case 2: case 3: case 4: case 5:
                papers(x, m, s, lane, p);
                break;
            case 6: case 7:
                long v = value();
                due.is("item " + s + " " + lane + " " + i + " " + v, x.item(s, lane, i, v), m.item(s, lane, i, v));
                break;
            case 8: case 9:
                int j = number(12);
                due.is("copy " + s + " " + i + " " + t + " " + j + " " + n, x.copy(s, i, t, j, n), m.copy(s, i, t, j, n));
                break;
            case 10:
                if (upTo(2) == 0) {
                    frames(x, m, p);
                    break;
                }
                n = upTo(3) == 0 ? number(25) : n;
                due.is("film " + p + " " + n + " " + s + " " + lane + " " + i, x.film(p, n, s, lane, i), m.film(p, n, s, lane, i));
                break;
            default:
                i = 2 * upTo(4);
                n = number(9);
                due.is("lasted " + p + " " + s + " " + lane + " " + i + " " + n, x.lasted(p, s, lane, i, n), m.lasted(p, s, lane, i, n));
                break;
        }
    }

    /** Papers that a person may well write, on a sheet, and for how long it lasts by them. */
    private static void papers(CaughtHand x, Model m, int s, int lane, int p) {
        int from = upTo(6);
        int n = 1 + upTo(4);
        int l = 1 + upTo(30);
        int was = m.lasting(l);
        int[] papers = new int[n];
        int[] on = new int[n];
        for (int k = 0; k < n; k++) {
            on[k] = upTo(40);
            papers[k] = upTo(12) == 0 ? row() : m.writes(p, on[k]);
        }
        m.lasting(was);
        for (int k = 0; k < n; k++) {
            due.is("item", x.item(s, lane, from + 2 * k, on[k]), m.item(s, lane, from + 2 * k, on[k]));
            due.is("item", x.item(s, lane, from + 2 * k + 1, papers[k]), m.item(s, lane, from + 2 * k + 1, papers[k]));
        }
        due.is("lasted " + p + " " + s + " " + lane + " " + from + " " + n, x.lasted(p, s, lane, from, n), m.lasted(p, s, lane, from, n));
    }

    /** Each item of a film, laid as a paper of its day, is one's own writing by the lasting that is. */
    private static void frames(CaughtHand x, Model m, int p) {
        int lane = upTo(4);
        int n = 1 + upTo(24);
        int from = upTo(25 - n);
        due.is("sheet 3", x.sheet(3, lane, 24), m.sheet(3, lane, 24));
        due.is("sheet 2", x.sheet(2, lane, 3), m.sheet(2, lane, 3));
        due.is("film " + p + " " + n + " 3 " + lane + " " + from, x.film(p, n, 3, lane, from), m.film(p, n, 3, lane, from));
        for (int k = 0; k < n; k++) {
            due.is("item", x.item(2, lane, 0, k + 1), m.item(2, lane, 0, k + 1));
            due.is("copy", x.copy(3, from + k, 2, 1, 1), m.copy(3, from + k, 2, 1, 1));
            due.is("frame " + k + " of " + p + " in " + lane, x.lasted(p, 2, lane, 0, 1), m.lasted(p, 2, lane, 0, 1));
        }
    }

    private static void look(CaughtHand x, Model m) {
        for (int what = -1; what <= 7; what++) {
            due.is("count " + what, x.count(what), m.count(what));
        }
        for (int chair = -1; chair <= 8; chair++) {
            due.is("at " + chair, x.at(chair), m.at(chair));
        }
        for (int person = -1; person <= 7; person++) {
            for (int what = -1; what <= 7; what++) {
                due.is("of " + person + " " + what, x.of(person, what), m.of(person, what));
            }
            for (int place = -1; place <= 6; place++) {
                due.is("till " + person + " " + place, x.till(person, place), m.till(person, place));
            }
        }
    }

    private static void text(CaughtHand x, Model m, String text) {
        for (int k = 0; k < text.length(); k++) {
            due.is("type " + text.charAt(k), x.type(text.charAt(k)), m.type(text.charAt(k)));
        }
        due.is("office of '" + text + "'", x.office(), m.office());
    }

    private static String drawnOffice() {
        StringBuilder text = new StringBuilder();
        int people = 1 + upTo(7);
        int chairs = 0;
        int narrow = 2 + upTo(7);
        for (int k = 0; k < people; k++) {
            int chair = upTo(8);
            while ((chairs >> chair & 1) == 1) {
                chair = (chair + 1) % 8;
            }
            chairs |= 1 << chair;
            text.append(k == 0 ? "" : ",").append("pslppslt".charAt(upTo(8))).append(upTo(10));
            for (int place = 0; place < 6; place++) {
                text.append(upTo(narrow));
            }
            text.append('@').append(chair);
        }
        int signs = upTo(31);
        for (int k = 0; k < signs; k++) {
            text.append(k == 0 ? ";" : "").append(upTo(2) == 0 ? '.' : 'r');
        }
        return text.toString();
    }

    private static String spoilt(String text) {
        int k = upTo(text.length());
        String signs = "pslt0123456789@,;.r x";
        char sign = signs.charAt(upTo(signs.length()));
        switch (upTo(4)) {
            case 0:
                return text.substring(0, k);
            case 1:
                return text.substring(0, k) + sign + text.substring(k);
            case 2:
                return text.substring(0, k) + sign + text.substring(k + 1);
            default:
                return text.substring(0, k) + "  " + text.substring(k) + " ";
        }
    }

    /** Mostly 0 .. bound - 1, seldom a little or far beside. */
    private static int number(int bound) {
        switch (upTo(40)) {
            case 0:
                return -1;
            case 1:
                return bound;
            case 2:
                return upTo(2) == 0 ? Integer.MIN_VALUE : Integer.MAX_VALUE;
            default:
                return upTo(bound);
        }
    }

    private static int someone(Model m) {
        return number(Math.max(1, m.now.people.size()));
    }

    private static int row() {
        if (upTo(12) == 0) {
            return upTo(2) == 0 ? (int) drawn() : upTo(1000000);
        }
        int row = 0;
        int narrow = 2 + upTo(7);
        for (int k = 0; k < 6; k++) {
            row = 10 * row + upTo(narrow);
        }
        return row;
    }

    private static int mixed(Model m, int p, int o) {
        int one = m.of(p, 2), other = m.of(o, 2), mixed = 0, power = 1;
        if (one < 0 || other < 0) {
            return row();
        }
        for (int k = 0; k < 6; k++) {
            mixed += (upTo(2) == 0 ? one : other) / power % 10 * power;
            power *= 10;
        }
        return mixed;
    }

    private static long value() {
        switch (upTo(4)) {
            case 0:
                return upTo(62);
            case 1:
                return row();
            case 2:
                return drawn() << 20 ^ drawn();
            default:
                return upTo(600) - 300;
        }
    }

    private static int upTo(int bound) {
        return (int) (drawn() % bound);
    }

    private static long drawn() {
        state = state * 6364136223846793005L + 1442695040888963407L;
        return state >>> 31;
    }
}
