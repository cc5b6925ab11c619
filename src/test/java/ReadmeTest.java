import java.io.IOException;
import java.lang.reflect.Method;
import java.lang.reflect.Modifier;
import java.nio.file.Files;
import java.nio.file.Path;
import java.util.ArrayList;
import java.util.List;
import java.util.regex.Matcher;
import java.util.regex.Pattern;
import java.util.stream.Stream;

/** The examples of README.md: each call that stands there with its answer is made, and answers so. */
public final class ReadmeTest {
    /** A line of an example: a call, and behind it the answer that the page tells. */
    private static final Pattern TOLD = Pattern.compile("^int \\w+ = (.*\\));\\s+// (-?\\d+): .*$");
    /** A method of the face, as a table of the page names it. */
    private static final Pattern NAMED = Pattern.compile("`(\\w+)`");

    private static final List<String> calls = new ArrayList<>();
    private static final List<Integer> answers = new ArrayList<>();
    private static int made = 0;
    private static int wrong = 0;

    public static void main(String[] args) throws IOException {
        List<String> page = Files.readAllLines(Path.of("README.md"));
        for (String line : page) {
            Matcher told = TOLD.matcher(line);
            if (told.matches()) {
                calls.add(told.group(1));
                answers.add(Integer.parseInt(told.group(2)));
            }
        }
        examples();
        check(made == calls.size(), "the page tells of " + calls.size() + " calls, the test made " + made);
        everyMethod(page);
        everyTest(page);
        System.out.println(wrong == 0 ? "the page tells what is so" : wrong + " faults");
        if (wrong != 0) {
            System.exit(1);
        }
    }

    private static void check(boolean right, String fault) {
        if (!right) {
            wrong++;
            System.out.println(fault);
        }
    }

    private static void told(String call, int got) {
        if (made >= calls.size()) {
            check(false, "the page does not tell of " + call);
            return;
        }
        check(call.equals(calls.get(made)), "the page tells of " + calls.get(made) + ", the test made " + call);
        check(got == answers.get(made), call + " answered " + got + ", the page tells " + answers.get(made));
        made++;
    }

    private static void examples() {
        SweeperRounds rounds = new SweeperRounds();
        int street = rounds.addStreet(4, 10, 3);
        told("rounds.addStreet(4, 10, 3)", street);
        rounds.lay(street, 0, 2, 80);
        told("rounds.addLeg(street, 0)", rounds.addLeg(street, 0));
        told("rounds.shift()", rounds.shift());
        told("rounds.latest(0)", rounds.latest(0));
        told("rounds.latest(1)", rounds.latest(1));
        told("rounds.cell(street, 0, 2, 0)", rounds.cell(street, 0, 2, 0));
        told("rounds.night(5)", rounds.night(5));
        told("rounds.bestSpeed()", rounds.bestSpeed());
        told("rounds.undo()", rounds.undo());
        String text = "10/3/08a/09b";
        for (int i = 0; i < text.length(); i++) {
            rounds.type(text.charAt(i));
        }
        told("rounds.load(rounds.count(0))", rounds.load(rounds.count(0)));
        told("rounds.faultKind()", rounds.faultKind());
        check(rounds.cell(1, 0, 1, 0) == 80 && rounds.cell(1, 0, 1, 1) == 0, "8 is not 80 dirt in a free cell");
        check(rounds.cell(1, 1, 2, 0) == 10 && rounds.cell(1, 1, 2, 1) == 1, "b is not 10 dirt in a parked cell");
        check(rounds.count(13) == text.length(), "the buffer does not stay");
        check(rounds.clearText() == text.length() && rounds.count(13) == 0, "the buffer is not emptied");
    }

    private static void everyMethod(List<String> page) {
        List<String> named = new ArrayList<>();
        for (String line : page) {
            Matcher name = NAMED.matcher(line);
            while (line.startsWith("|") && name.find()) {
                named.add(name.group(1));
            }
        }
        for (Method method : SweeperRounds.class.getDeclaredMethods()) {
            if (Modifier.isPublic(method.getModifiers())) {
                check(named.contains(method.getName()), "the page does not name " + method.getName());
            }
        }
    }

    private static void everyTest(List<String> page) throws IOException {
        String all = String.join("\n", page);
        try (Stream<Path> tests = Files.list(Path.of("src/test/java"))) {
            for (Path test : tests.toList()) {
                check(all.contains(test.getFileName().toString()), "the page does not name " + test.getFileName());
            }
        }
    }
}
