/** Counts and prints the answers that are not the ones that are due. */
final class Due {
    static final int BAD = -1, NOT = -2, FULL = -3, NONE = -4, NULL = -11, CAST = -12, INDEX = -13, SIZE = -14;

    private int wrong;
    private int asked;
    private String part = "";

    void part(String name) {
        part = name;
    }

    void is(String call, long got, long want) {
        asked++;
        if (got != want) {
            wrong++;
            if (wrong <= 40) {
                System.out.println(part + ": " + call + " answered " + got + ", due is " + want);
            }
        }
    }

    int wrong() {
        return wrong;
    }

    void end() {
        System.out.println(asked + " answers asked, " + wrong + " wrong");
        if (wrong > 0) {
            System.exit(1);
        }
    }

    /** Types a text and makes it the office. */
    static int officeOf(CaughtHand x, String text) {
        for (int k = 0; k < text.length(); k++) {
            x.type(text.charAt(k));
        }
        return x.office();
    }

    /** Everything that can be asked without a change, as one text. */
    static String stateOf(CaughtHand x) {
        StringBuilder s = new StringBuilder();
        for (int what = 0; what <= 6; what++) {
            s.append(x.count(what)).append(' ');
        }
        for (int chair = 0; chair < 8; chair++) {
            s.append(x.at(chair)).append(' ');
        }
        for (int person = 0; person < x.count(0); person++) {
            for (int what = 0; what <= 6; what++) {
                s.append(x.of(person, what)).append(' ');
            }
            for (int place = 0; place < 6; place++) {
                s.append(x.till(person, place)).append(' ');
            }
        }
        return s.toString();
    }
}
