import java.util.LinkedHashMap;
import java.util.Map;

/** Counts and prints the answers that are not the ones that are due. */
final class Due {
    private final Map<String, Integer> wrongByPart = new LinkedHashMap<>();
    private int wrong;
    private int asked;
    private String part = "";

    void part(String name) {
        part = name;
        wrongByPart.putIfAbsent(name, 0);
    }

    void is(String call, long got, long want) {
        asked++;
        if (got != want) {
            wrong++;
            wrongByPart.merge(part, 1, Integer::sum);
            if (wrong <= 40) {
                System.out.println(part + ": " + call + " answered " + got + ", due is " + want);
            }
        }
    }

    void so(String what, boolean holds) {
        is(what, holds ? 1 : 0, 1);
    }

    int wrong() {
        return wrong;
    }

    int asked() {
        return asked;
    }

    /** How many wrong answers each part had, in the order of the parts. */
    Map<String, Integer> wrongByPart() {
        return wrongByPart;
    }

    void end() {
        System.out.println(asked + " answers asked, " + wrong + " wrong");
        if (wrong > 0) {
            System.exit(1);
        }
    }

    /** Types a text and makes it the office. */
    static int officeOf(CaughtHand x, String text) {
        for (int k = 0; k < text.length(); k++) {
            x.type(text.charAt(k));
        }
        return x.office();
    }

    /** Everything that can be asked without a change, as one text. */
    static String stateOf(CaughtHand x) {
        StringBuilder s = new StringBuilder();
        int people = x.count(0);
        s.append(people).append(' ');
        for (int what = 1; what <= 6; what++) {
            s.append(x.count(what)).append(' ');
        }
        for (int chair = 0; chair < 8; chair++) {
            s.append(x.at(chair)).append(' ');
        }
        for (int person = 0; person < people; person++) {
            for (int what = 0; what <= 6; what++) {
                s.append(x.of(person, what)).append(' ');
            }
            for (int place = 0; place < 6; place++) {
                s.append(x.till(person, place)).append(' ');
            }
        }
        return s.toString();
    }
}
