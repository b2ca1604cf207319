import java.util.ArrayList;
import java.util.Arrays;
import java.util.List;

/** The document once more, as plainly as it can be written, to be asked the same as the class. */
final class Model {
    static final int BAD = -1, NOT = -2, FULL = -3, NONE = -4, NULL = -11, CAST = -12, INDEX = -13, SIZE = -14;

    /** A person; strokes are texts of six signs. */
    static final class Person {
        int kind;
        int strength;
        int chair;
        String own;
        String writes;
        Integer[] till = new Integer[6];

        Person same() {
            Person p = new Person();
            p.kind = kind;
            p.strength = strength;
            p.chair = chair;
            p.own = own;
            p.writes = writes;
            p.till = till.clone();
            return p;
        }
    }

    /** All that an image keeps but the days that may be undone. */
    static final class State {
        List<Person> people = new ArrayList<>();
        boolean[] dry = new boolean[8];
        int weather;
        int lasting = 14;
        int draw = 1;
        int day;

        State same() {
            State s = new State();
            for (Person p : people) {
                s.people.add(p.same());
            }
            s.dry = dry.clone();
            s.weather = weather;
            s.lasting = lasting;
            s.draw = draw;
            s.day = day;
            return s;
        }

        Person on(int chair) {
            for (Person p : people) {
                if (p.chair == chair) {
                    return p;
                }
            }
            return null;
        }

        boolean wet() {
            return (weather >> day % 30 & 1) == 1;
        }

        int lasts(Person p) {
            switch (p.kind) {
                case 1: return 2 * lasting;
                case 3: return 2 * lasting + 7;
                default: return lasting;
            }
        }

        int next(boolean wet) {
            for (Person p : people) {
                for (int k = 0; k < 6; k++) {
                    if (p.till[k] != null && p.till[k] == day) {
                        p.till[k] = null;
                        p.writes = put(p.writes, k, p.own.charAt(k));
                    }
                }
            }
            int taken = 0;
            if (wet) {
                State then = same();
                for (int k = 0; k < people.size(); k++) {
                    taken += take(people.get(k), then);
                }
            }
            day++;
            return taken;
        }

        int take(Person p, State then) {
            if (p.kind == 3 || dry[p.chair]) {
                return 0;
            }
            Person best = null;
            for (Person other : then.people) {
                boolean beside = Math.abs(other.chair - p.chair) == 1;
                if (beside && !dry[other.chair] && other.strength > p.strength && (best == null || other.strength > best.strength)) {
                    best = other;
                }
            }
            if (best == null) {
                return 0;
            }
            for (int k = 0; k < 6; k++) {
                char stroke = best.writes.charAt(k);
                if (p.kind == 2) {
                    stroke = (char) ('0' + 7 - (stroke - '0'));
                }
                if (p.writes.charAt(k) != stroke) {
                    p.writes = put(p.writes, k, stroke);
                    p.till[k] = day + lasts(best);
                    return 1;
                }
            }
            return 0;
        }

        void exchange(int a, int b) {
            Person one = on(a);
            Person other = on(b);
            if (one != null) {
                one.chair = b;
            }
            if (other != null) {
                other.chair = a;
            }
        }

        State behind(int n) {
            State s = same();
            for (int k = 0; k < n; k++) {
                s.next(s.wet());
            }
            return s;
        }
    }

    State now = new State();
    List<State> past = new ArrayList<>();
    State image;
    List<State> imagePast;
    StringBuilder tape = new StringBuilder();
    long[][] sheets = new long[4][];
    int[] lanes = new int[4];

    static String put(String row, int k, char stroke) {
        return row.substring(0, k) + stroke + row.substring(k + 1);
    }

    static String row(long figures) {
        if (figures < 0 || figures > 777777) {
            return null;
        }
        String s = String.format("%06d", figures);
        return s.indexOf('8') >= 0 || s.indexOf('9') >= 0 ? null : s;
    }

    static int same(String a, String b) {
        int same = 0;
        for (int k = 0; k < 6; k++) {
            same += a.charAt(k) == b.charAt(k) ? 1 : 0;
        }
        return same;
    }

    boolean in(int v, int a, int b) {
        return v >= a && v <= b;
    }

    boolean no(int person) {
        return !in(person, 0, now.people.size() - 1);
    }

    int person(int kind, int strength, int hand, int chair) {
        if (!in(kind, 0, 3) || !in(strength, 0, 9) || row(hand) == null || !in(chair, 0, 7)) {
            return BAD;
        }
        if (now.on(chair) != null) {
            return NOT;
        }
        if (now.people.size() == 7) {
            return FULL;
        }
        now.people.add(made(kind, strength, row(hand), chair));
        past.clear();
        return now.people.size() - 1;
    }

    static Person made(int kind, int strength, String hand, int chair) {
        Person p = new Person();
        p.kind = kind;
        p.strength = strength;
        p.own = hand;
        p.writes = hand;
        p.chair = chair;
        return p;
    }

    int so(Person p) {
        int so = 0;
        for (Integer t : p.till) {
            so += t != null ? 1 : 0;
        }
        return so;
    }

    int of(int person, int what) {
        if (no(person) || !in(what, 0, 6)) {
            return BAD;
        }
        Person p = now.people.get(person);
        int[] all = {p.kind, p.strength, Integer.parseInt(p.own), p.chair, Integer.parseInt(p.writes), so(p), now.lasts(p)};
        return all[what];
    }

    int till(int person, int place) {
        if (no(person) || !in(place, 0, 5)) {
            return BAD;
        }
        Integer t = now.people.get(person).till[place];
        return t == null ? NONE : t;
    }

    int sit(int person, int chair) {
        if (no(person) || !in(chair, 0, 7)) {
            return BAD;
        }
        int was = now.people.get(person).chair;
        now.exchange(was, chair);
        return was;
    }

    int at(int chair) {
        if (!in(chair, 0, 7)) {
            return BAD;
        }
        Person p = now.on(chair);
        return p == null ? NONE : now.people.indexOf(p);
    }

    int dry(int chair, int is) {
        if (!in(chair, 0, 7) || !in(is, 0, 1)) {
            return BAD;
        }
        int was = now.dry[chair] ? 1 : 0;
        now.dry[chair] = is == 1;
        return was;
    }

    int weather(int bits) {
        if (!in(bits, 0, 1073741823)) {
            return BAD;
        }
        int was = now.weather;
        now.weather = bits;
        return was;
    }

    int lasting(int l) {
        if (!in(l, 1, 30)) {
            return BAD;
        }
        int was = now.lasting;
        now.lasting = l;
        return was;
    }

    int type(int letter) {
        if (!in(letter, 32, 126)) {
            return BAD;
        }
        if (tape.length() == 130) {
            return FULL;
        }
        tape.append((char) letter);
        return tape.length();
    }

    /** The letters that may stand behind those read so far, one by one; the blanks' places are kept beside. */
    int office() {
        String text = tape.toString();
        tape.setLength(0);
        List<Character> letters = new ArrayList<>();
        List<Integer> places = new ArrayList<>();
        for (int k = 0; k < text.length(); k++) {
            if (text.charAt(k) != ' ') {
                letters.add(text.charAt(k));
                places.add(k);
            }
        }
        State made = new State();
        int phase = 0;
        int signs = 0;
        StringBuilder one = new StringBuilder();
        for (int k = 0; k < letters.size(); k++) {
            char c = letters.get(k);
            String may;
            if (phase == 0) {
                may = "pslt";
            } else if (phase == 1) {
                may = "0123456789";
            } else if (phase <= 7) {
                may = "01234567";
            } else if (phase == 8) {
                may = "@";
            } else if (phase == 9) {
                may = freeChairs(made);
            } else if (phase == 10) {
                may = made.people.size() < 7 ? ",;" : ";";
            } else {
                may = signs < 30 ? ".r" : "";
            }
            if (may.indexOf(c) < 0) {
                return -20 - places.get(k);
            }
            one.append(c);
            if (phase == 9) {
                int kind = "pslt".indexOf(one.charAt(0));
                made.people.add(made(kind, one.charAt(1) - '0', one.substring(2, 8), c - '0'));
                one.setLength(0);
            }
            if (phase == 11) {
                made.weather |= c == 'r' ? 1 << signs : 0;
                signs++;
            } else if (phase == 10) {
                phase = c == ',' ? 0 : 11;
                one.setLength(0);
            } else {
                phase++;
            }
        }
        if (phase != 10 && !(phase == 11 && signs > 0)) {
            return -20 - text.length();
        }
        made.lasting = now.lasting;
        made.draw = now.draw;
        now = made;
        past.clear();
        return now.people.size();
    }

    static String freeChairs(State s) {
        StringBuilder free = new StringBuilder();
        for (int chair = 0; chair < 8; chair++) {
            if (s.on(chair) == null) {
                free.append(chair);
            }
        }
        return free.toString();
    }

    int count(int what) {
        if (!in(what, 0, 6)) {
            return BAD;
        }
        int dry = 0;
        for (int chair = 0; chair < 8; chair++) {
            dry += now.dry[chair] ? 1 << chair : 0;
        }
        int so = 0;
        for (Person p : now.people) {
            so += so(p);
        }
        int[] all = {now.people.size(), now.day, now.wet() ? 1 : 0, dry, now.lasting, past.size(), so};
        return all[what];
    }

    int pass(int n, boolean drift) {
        if (!in(n, 1, 60)) {
            return BAD;
        }
        if (now.day + n > 9999) {
            return FULL;
        }
        int taken = 0;
        for (int k = 0; k < n; k++) {
            past.add(now.same());
            if (past.size() > 8) {
                past.remove(0);
            }
            boolean wet = now.wet();
            if (drift) {
                now.draw = (int) ((now.draw * 1103515245L + 12345L) % 2147483648L);
                wet = now.draw / 65536 % 2 == 1;
            }
            taken += now.next(wet);
        }
        return taken;
    }

    int days(int n) {
        return pass(n, false);
    }

    int drift(int n) {
        return pass(n, true);
    }

    int undo() {
        if (past.isEmpty()) {
            return NONE;
        }
        State then = past.remove(past.size() - 1);
        now.day = then.day;
        for (int k = 0; k < now.people.size(); k++) {
            now.people.get(k).writes = then.people.get(k).writes;
            now.people.get(k).till = then.people.get(k).till.clone();
        }
        return past.size();
    }

    int seed(int v) {
        if (v < 0) {
            return BAD;
        }
        int was = now.draw;
        now.draw = v;
        return was;
    }

    String hand(int person, int n) {
        return now.behind(n).people.get(person).writes;
    }

    int writes(int person, int n) {
        return no(person) || !in(n, 0, 60) ? BAD : Integer.parseInt(hand(person, n));
    }

    int cheque(int person) {
        if (no(person)) {
            return BAD;
        }
        for (int k = 0; k <= 60; k++) {
            if (!hand(person, k).equals(now.people.get(person).own)) {
                return k;
            }
        }
        return NONE;
    }

    int out(int person, int q, int n) {
        if (no(person) || !in(q, 1, 6) || !in(n, 0, 60)) {
            return BAD;
        }
        for (Person p : now.behind(n).people) {
            if (same(p.writes, now.people.get(person).own) >= q) {
                return 0;
            }
        }
        return 1;
    }

    boolean writesSo(State s, int person, int place, int stroke, int n) {
        return s.behind(n).people.get(person).writes.charAt(place) == '0' + stroke;
    }

    int seats(int person, int place, int stroke, int n, int what) {
        if (no(person) || !in(place, 0, 5) || !in(stroke, 0, 7) || !in(n, 0, 60) || !in(what, 0, 2)) {
            return BAD;
        }
        if (writesSo(now, person, place, stroke, n)) {
            return what == 0 ? 0 : NONE;
        }
        for (int a = 0; a < 8; a++) {
            for (int b = a + 1; b < 8; b++) {
                State s = now.same();
                s.exchange(a, b);
                if (writesSo(s, person, place, stroke, n)) {
                    return what == 0 ? 1 : what == 1 ? 8 * a + b : NONE;
                }
            }
        }
        for (int a = 0; a < 8; a++) {
            for (int b = a + 1; b < 8; b++) {
                for (int c = 0; c < 8; c++) {
                    for (int d = c + 1; d < 8; d++) {
                        State s = now.same();
                        s.exchange(a, b);
                        s.exchange(c, d);
                        if (writesSo(s, person, place, stroke, n)) {
                            return what == 0 ? 2 : what == 1 ? 8 * a + b : 8 * c + d;
                        }
                    }
                }
            }
        }
        return NONE;
    }

    int who(int paper, int n) {
        if (row(paper) == null || !in(n, 0, 60)) {
            return BAD;
        }
        int set = 0;
        State s = now.behind(n);
        for (int k = 0; k < s.people.size(); k++) {
            set += s.people.get(k).writes.equals(row(paper)) ? 1 << k : 0;
        }
        return set;
    }

    int likely(int person, int paper, int n, int what) {
        if (no(person) || row(paper) == null || !in(n, 0, 8) || !in(what, 0, 1)) {
            return BAD;
        }
        int ways = ways(now.same(), person, row(paper), n);
        int all = 1;
        for (int k = 0; k < n; k++) {
            all *= 2;
        }
        int a = ways;
        int b = all;
        while (b != 0) {
            int rest = a % b;
            a = b;
            b = rest;
        }
        return what == 0 ? ways / a : all / a;
    }

    int ways(State s, int person, String paper, int n) {
        if (n == 0) {
            return s.people.get(person).writes.equals(paper) ? 1 : 0;
        }
        State wet = s.same();
        wet.next(true);
        State not = s.same();
        not.next(false);
        return ways(wet, person, paper, n - 1) + ways(not, person, paper, n - 1);
    }

    int most(int place, int n, int what) {
        if (!in(place, 0, 5) || !in(n, 0, 60) || !in(what, 0, 1)) {
            return BAD;
        }
        int best = NONE;
        int by = -1;
        State s = now.behind(n);
        for (int k = 0; k < s.people.size(); k++) {
            int writers = 0;
            for (Person p : s.people) {
                writers += p.writes.charAt(place) == s.people.get(k).own.charAt(place) ? 1 : 0;
            }
            if (writers > by) {
                by = writers;
                best = k;
            }
        }
        return what == 0 || best == NONE ? best : by;
    }

    int dryOut(int person, int n) {
        if (no(person) || !in(n, 0, 60)) {
            return BAD;
        }
        for (int many = 0; many <= 8; many++) {
            for (int set = 0; set < 256; set++) {
                if (Integer.bitCount(set) == many && keepsWith(set, person, n)) {
                    return set;
                }
            }
        }
        return NONE;
    }

    boolean keepsWith(int set, int person, int n) {
        State s = now.same();
        for (int chair = 0; chair < 8; chair++) {
            if ((set >> chair & 1) == 1) {
                if (s.dry[chair]) {
                    return false;
                }
                s.dry[chair] = true;
            }
        }
        for (int k = 0; k <= n; k++) {
            if (!s.people.get(person).writes.equals(s.people.get(person).own)) {
                return false;
            }
            s.next(s.wet());
        }
        return true;
    }

    int forger(int person, int other, int n, int what) {
        if (no(person) || no(other) || person == other || !in(n, 0, 60) || !in(what, 0, 1)) {
            return BAD;
        }
        int best = -1;
        int many = -1;
        for (int chair = 0; chair < 8; chair++) {
            if (now.on(chair) == null || chair == now.people.get(person).chair) {
                State s = now.same();
                s.people.get(person).chair = chair;
                int forged = same(s.behind(n).people.get(person).writes, now.people.get(other).own);
                if (forged > many) {
                    many = forged;
                    best = chair;
                }
            }
        }
        return what == 0 ? best : many;
    }

    int two(int paper, int what) {
        String row = row(paper);
        if (row == null || !in(what, 0, 1)) {
            return BAD;
        }
        List<Integer> pairs = new ArrayList<>();
        for (int a = 0; a < now.people.size(); a++) {
            for (int b = a + 1; b < now.people.size(); b++) {
                String one = now.people.get(a).own;
                String other = now.people.get(b).own;
                boolean all = true;
                boolean needsOne = false;
                boolean needsOther = false;
                for (int k = 0; k < 6; k++) {
                    boolean byOne = one.charAt(k) == row.charAt(k);
                    boolean byOther = other.charAt(k) == row.charAt(k);
                    all &= byOne || byOther;
                    needsOne |= byOne && !byOther;
                    needsOther |= byOther && !byOne;
                }
                if (all && needsOne && needsOther) {
                    pairs.add(8 * a + b);
                }
            }
        }
        return what == 0 ? pairs.size() : pairs.isEmpty() ? NONE : pairs.get(0);
    }

    int tree() {
        int people = now.people.size();
        int[] part = new int[people];
        for (int k = 0; k < people; k++) {
            part[k] = k;
        }
        int sum = 0;
        for (int changes = 0; changes <= 6; changes++) {
            for (int a = 0; a < people; a++) {
                for (int b = 0; b < people; b++) {
                    if (part[a] != part[b] && 6 - same(now.people.get(a).own, now.people.get(b).own) == changes) {
                        sum += changes;
                        int gone = part[b];
                        for (int k = 0; k < people; k++) {
                            part[k] = part[k] == gone ? part[a] : part[k];
                        }
                    }
                }
            }
        }
        return sum;
    }

    int signature(int person) {
        if (no(person)) {
            return BAD;
        }
        for (int k = 1; k <= 6; k++) {
            boolean only = true;
            for (int other = 0; other < now.people.size(); other++) {
                only &= other == person || !now.people.get(other).writes.startsWith(now.people.get(person).own.substring(0, k));
            }
            if (only) {
                return k;
            }
        }
        return NONE;
    }

    int image() {
        image = now.same();
        imagePast = new ArrayList<>();
        for (State s : past) {
            imagePast.add(s.same());
        }
        return 1;
    }

    int restore() {
        if (image == null) {
            return NONE;
        }
        now = image.same();
        past = new ArrayList<>();
        for (State s : imagePast) {
            past.add(s.same());
        }
        return 1;
    }

    int refusal(int sheet, int lane, long i, long n) {
        if (sheets[sheet] == null) {
            return NULL;
        }
        if (lanes[sheet] != lane) {
            return CAST;
        }
        return i < 0 || n < 0 || i + n > sheets[sheet].length ? INDEX : 0;
    }

    int lasted(int person, int sheet, int lane, int i, int n) {
        if (no(person) || !in(sheet, 0, 3) || !in(lane, 0, 3) || !in(n, 1, 8)) {
            return BAD;
        }
        int refused = refusal(sheet, lane, i, 2 * n);
        if (refused < 0) {
            return refused;
        }
        long[] items = Arrays.copyOfRange(sheets[sheet], i, i + 2 * n);
        for (int k = 0; k < n; k++) {
            if (items[2 * k] < 0 || items[2 * k] > 60 || row(items[2 * k + 1]) == null) {
                return NOT;
            }
        }
        int set = 0;
        for (int l = 1; l <= 30; l++) {
            State s = now.same();
            s.lasting = l;
            boolean all = true;
            for (int k = 0; k < n; k++) {
                all &= s.behind((int) items[2 * k]).people.get(person).writes.equals(row(items[2 * k + 1]));
            }
            set |= all ? 1 << l : 0;
        }
        return set;
    }

    static long cut(int lane, long v) {
        long all = lane == 0 ? 1L << 8 : lane == 1 ? 1L << 16 : 1L << 32;
        if (lane == 3) {
            return v;
        }
        long rest = Math.floorMod(v, all);
        return rest >= all / 2 ? rest - all : rest;
    }

    int film(int person, int n, int sheet, int lane, int i) {
        if (no(person) || !in(n, 1, 24) || !in(sheet, 0, 3) || !in(lane, 0, 3)) {
            return BAD;
        }
        int refused = refusal(sheet, lane, i, n);
        if (refused < 0) {
            return refused;
        }
        for (int k = 1; k <= n; k++) {
            sheets[sheet][i + k - 1] = cut(lane, Integer.parseInt(hand(person, k)));
        }
        return n;
    }

    int sheet(int sheet, int lane, int n) {
        if (!in(sheet, 0, 3) || !in(lane, 0, 3) || n > 24) {
            return BAD;
        }
        if (n < 0) {
            return SIZE;
        }
        sheets[sheet] = new long[n];
        lanes[sheet] = lane;
        return n;
    }

    int drop(int sheet) {
        if (!in(sheet, 0, 3)) {
            return BAD;
        }
        if (sheets[sheet] == null) {
            return NULL;
        }
        int many = sheets[sheet].length;
        sheets[sheet] = null;
        return many;
    }

    int item(int sheet, int lane, int i, long v) {
        if (!in(sheet, 0, 3) || !in(lane, 0, 3)) {
            return BAD;
        }
        int refused = refusal(sheet, lane, i, 1);
        if (refused < 0) {
            return refused;
        }
        sheets[sheet][i] = cut(lane, v);
        return 1;
    }

    int copy(int from, int i, int to, int j, int n) {
        if (!in(from, 0, 3) || !in(to, 0, 3)) {
            return BAD;
        }
        if (sheets[from] == null || sheets[to] == null) {
            return NULL;
        }
        if (lanes[from] != lanes[to]) {
            return CAST;
        }
        if (n < 0 || i < 0 || j < 0 || (long) i + n > sheets[from].length || (long) j + n > sheets[to].length) {
            return INDEX;
        }
        long[] taken = Arrays.copyOfRange(sheets[from], i, i + n);
        for (int k = 0; k < n; k++) {
            sheets[to][j + k] = taken[k];
        }
        return n;
    }
}
