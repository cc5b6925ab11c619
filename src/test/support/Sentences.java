import java.util.ArrayList;
import java.util.List;

/**
 * What the tests of single sentences share; they extend it to call it by short names. Each test says
 * first which words of the document it holds the class to: a wrong answer is told together with them.
 */
abstract class Sentences {
    static final int BAD = -1, STATE = -2, FULL = -3, NONE = -9;
    static final int LOW = Integer.MIN_VALUE, HIGH = Integer.MAX_VALUE;

    interface Setup {
        void on(SweeperRounds x);
    }

    interface Call {
        long on(SweeperRounds x);
    }

    interface CallWith {
        long on(SweeperRounds x, int value);
    }

    private static String words = "";
    private static int tests = 0;
    private static int wrong = 0;

    /** Begins the test of a sentence, on a new object. */
    static SweeperRounds says(String sentence) {
        words = sentence;
        tests++;
        return new SweeperRounds();
    }

    static void due(String call, long got, long want) {
        if (got != want) {
            wrong++;
            System.out.println("\"" + words + "\": " + call + " answered " + got + ", due is " + want);
        }
    }

    static void holds(String what, boolean right) {
        due(what, right ? 1 : 0, 1);
    }

    static void end() {
        System.out.println(wrong == 0 ? tests + " sentences hold" : wrong + " answers are not as due");
        if (wrong != 0) {
            System.exit(1);
        }
    }

    /** Puts a text into the buffer in place of what it has. */
    static void write(SweeperRounds x, String text) {
        x.clearText();
        for (int i = 0; i < text.length(); i++) {
            due("type(" + text.charAt(i) + ")", x.type(text.charAt(i)), i + 1);
        }
    }

    static String times(int n, String text) {
        return text.repeat(n);
    }

    static void counts(SweeperRounds x, int from, int... want) {
        for (int i = 0; i < want.length; i++) {
            due("count(" + (from + i) + ")", x.count(from + i), want[i]);
        }
    }

    static void accounts(SweeperRounds x, int... want) {
        for (int i = 0; i < want.length; i++) {
            due("account(" + i + ")", x.account(i), want[i]);
        }
    }

    static void latests(SweeperRounds x, int... want) {
        for (int i = 0; i < want.length; i++) {
            due("latest(" + i + ")", x.latest(i), want[i]);
        }
    }

    static void dirts(SweeperRounds x, int street, int side, int... want) {
        for (int i = 0; i < want.length; i++) {
            due("cell(" + street + ", " + side + ", " + i + ", 0)", x.cell(street, side, i, 0), want[i]);
        }
    }

    /** A call that is refused in a state, and leaves no trace there. */
    static void refused(String name, Setup state, Call call, long want) {
        holds(name + " is told to be refused", want == BAD || want == STATE || want == FULL || want == NONE || want <= -10);
        changesNothing(name, state, call, want);
    }

    /** A call in a state that is afterwards like a twin without that call, also in its past. */
    static void changesNothing(String name, Setup state, Call call, long want) {
        SweeperRounds x = made(state);
        SweeperRounds twin = made(state);
        due(name, call.on(x), want);
        due(name + " once more", call.on(x), want);
        holds(name + " leaves all as it was", traces(x).equals(traces(twin)));
    }

    /** A number with a range: the bounds are taken, and what is beyond them is BAD and changes nothing. */
    static void range(String name, Setup state, CallWith call, int least, int most) {
        int[] inside = {least, Math.min(least + 1, most), Math.max(most - 1, least), most};
        for (int value : inside) {
            holds(name + " of " + value + " is taken", call.on(made(state), value) >= 0);
        }
        int[] outside = {least - 1, most + 1, least - 1000, most + 1000, least + 65536, most - 65536,
            least + 256 * 256 * 256, -HIGH, LOW, HIGH};
        for (int value : outside) {
            refused(name + " of " + value, state, x -> call.on(x, value), BAD);
        }
    }

    static SweeperRounds made(Setup state) {
        SweeperRounds x = new SweeperRounds();
        state.on(x);
        return x;
    }

    /** All that can be seen of an object: its answers, its past and what stands in its text buffer. */
    private static List<Long> traces(SweeperRounds x) {
        List<Long> traces = new ArrayList<>();
        traces.add((long) x.faultKind());
        traces.add(x.digest());
        for (int left = x.undo(); left != STATE; left = x.undo()) {
            traces.add((long) left);
            traces.add(x.digest());
        }
        traces.add((long) x.load(0));
        traces.add((long) x.faultKind());
        traces.add(x.digest());
        traces.add((long) x.clearText());
        return traces;
    }
}
