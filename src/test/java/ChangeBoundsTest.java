/** The bounds that the document names for changes and errors, and promises 25 to 27. */
public final class ChangeBoundsTest extends Sentences {
    /** The successful calls that are changes, in the state of someWorld. */
    private static final Call[] CHANGES = {x -> x.load(0), x -> x.load(2), x -> x.addStreet(20, 60, 9), x -> x.dropStreet(0),
        x -> x.dropStreet(1), x -> x.lay(0, 0, 0, 99), x -> x.lay(1, 1, 1, 0), x -> x.park(0, 1, 2, true),
        x -> x.park(1, 1, 0, false), x -> x.set(0, 4), x -> x.set(1, 2000), x -> x.set(2, 9), x -> x.set(3, 6000),
        x -> x.set(4, 1000), x -> x.set(5, 400), x -> x.addLeg(0, 0), x -> x.addLeg(1, 0), x -> x.dropLeg(0), x -> x.dropLeg(1),
        x -> x.shift(), x -> x.night(1), x -> x.night(30), x -> x.rain(1), x -> x.rain(100)};

    /** Changes that leave everything as it is, but for being remembered. */
    private static final Call[] IDLE = {x -> x.lay(0, 0, 0, 9), x -> x.park(0, 0, 0, false), x -> x.park(1, 1, 0, true),
        x -> x.set(0, 3), x -> x.set(1, 160), x -> x.set(2, 4), x -> x.set(3, 900), x -> x.set(4, 300), x -> x.set(5, 120)};

    private static final Call[] QUESTIONS = {x -> x.faultKind(), x -> x.cell(0, 0, 0, 0), x -> x.cell(0, 0, 0, 1),
        x -> x.cell(0, 0, 0, 2), x -> x.street(1, 7), x -> x.leg(0, 0), x -> x.leg(0, 2), x -> x.latest(0), x -> x.ifSpeed(1),
        x -> x.bestSpeed(), x -> x.bestOrder(0, true), x -> x.bestOrder(1, false), x -> x.nightsTo(99), x -> x.account(6),
        x -> x.count(14), x -> x.digest()};

    public static void main(String[] args) {
        changesAreRemembered();
        othersAreNot();
        idleChangesAreChanges();
        undoRestores();
        undoRestoresTheLatestShift();
        butNotTheText();
        atMostEightStates();
        oldestIsDropped();
        latestIsRestored();
        undoIsNoChange();
        undoAnswers();
        badFirst();
        refusedChangesNothingWhenNew();
        refusedChangesNothingInBetween();
        refusedChangesNothingWhenFull();
        noneIsNoError();
        countAnswers();
        countBounds();
        digestOfANewObject();
        digestOverflows();
        fiveHundredAndTwelveCalls();
        end();
    }

    private static void someWorld(SweeperRounds x) {
        write(x, "4/5/9a7/8h6");
        x.load(0);
        x.addStreet(2, 9, 8);
        x.park(1, 1, 0, true);
        x.lay(1, 1, 1, 50);
        x.addLeg(1, 1);
        x.addLeg(0, 0);
        int[] values = {3, 160, 4, 900, 300, 120};
        for (int what = 0; what <= 5; what++) {
            x.set(what, values[what]);
        }
        x.night(2);
        x.shift();
        x.rain(40);
        x.lay(0, 0, 0, 9);
        for (int i = 0; i < 4; i++) {
            x.undo();
        }
        x.shift();
        x.lay(0, 0, 0, 9);
    }

    /** Everything full: six streets, ten legs, the text, the hopper, the memory of states. */
    private static void fullWorld(SweeperRounds x) {
        for (int i = 0; i < 6; i++) {
            x.addStreet(1, 0, 0);
        }
        for (int i = 0; i < 10; i++) {
            x.addLeg(i % 6, 0);
        }
        x.set(0, 1);
        x.lay(0, 0, 0, 30);
        x.shift();
        x.set(1, 30);
        for (int i = 0; i < 80; i++) {
            x.type(49);
        }
        counts(x, 0, 6, 10, 1, 989, 30, 30);
        counts(x, 13, 80, 8);
    }

    private static void changesAreRemembered() {
        says("Changes are the successful calls of load, addStreet, dropStreet, lay, park, set, addLeg, dropLeg, shift");
        for (int i = 0; i < CHANGES.length; i++) {
            SweeperRounds x = made(ChangeBoundsTest::someWorld);
            int states = x.count(14);
            holds("change " + i + " is not refused", CHANGES[i].on(x) >= 0);
            due("count(14) after change " + i, x.count(14), states + 1);
        }
    }

    private static void othersAreNot() {
        says("Changes are the successful calls");
        SweeperRounds x = made(ChangeBoundsTest::someWorld);
        int states = x.count(14);
        Call[] texts = {y -> y.type(32), y -> y.clearText(), y -> y.type(57), y -> y.load(0), y -> y.load(3), y -> y.clearText()};
        for (Call call : texts) {
            call.on(x);
            due("count(14)", x.count(14), states);
        }
        for (int i = 0; i < QUESTIONS.length; i++) {
            QUESTIONS[i].on(x);
            due("count(14) after question " + i, x.count(14), states);
            Call question = QUESTIONS[i];
            SweeperRounds y = made(ChangeBoundsTest::someWorld);
            long answer = question.on(y);
            changesNothing("question " + i, ChangeBoundsTest::someWorld, question, answer);
        }
    }

    private static void idleChangesAreChanges() {
        says("Each change records the state before it");
        for (int i = 0; i < IDLE.length; i++) {
            SweeperRounds x = made(ChangeBoundsTest::someWorld);
            int states = x.count(14);
            long before = x.digest();
            holds("change " + i + " is not refused", IDLE[i].on(x) >= 0);
            due("count(14) after change " + i, x.count(14), states + 1);
            due("undo()", x.undo(), states);
            due("digest()", x.digest(), before);
        }
        SweeperRounds x = new SweeperRounds();
        Call[] empty = {y -> y.shift(), y -> y.night(1), y -> y.rain(1)};
        for (int i = 0; i < empty.length; i++) {
            due("a change of an empty object", empty[i].on(x), 0);
            due("count(14)", x.count(14), i + 1);
        }
    }

    private static void undoRestores() {
        says("everything but the text buffer and what faultKind() returns");
        for (int i = 0; i < CHANGES.length; i++) {
            SweeperRounds x = made(ChangeBoundsTest::someWorld);
            long before = x.digest();
            CHANGES[i].on(x);
            holds("change " + i + " changes the digest", x.digest() != before);
            x.undo();
            due("digest() after undo of change " + i, x.digest(), before);
            // Two changes deep, so that a state shared with the present one would show.
            CHANGES[i].on(x);
            long between = x.digest();
            if (i % 2 == 0) {
                x.shift();
            } else {
                x.rain(100);
            }
            due("count(14)", x.count(14), 8);
            x.undo();
            due("digest() after undo of what followed change " + i, x.digest(), between);
            x.undo();
            due("digest() after undo of change " + i + " again", x.digest(), before);
        }
    }

    private static void undoRestoresTheLatestShift() {
        SweeperRounds x = says("Each change records the state before it");
        x.addStreet(1, 0, 0);
        x.addStreet(1, 10, 0);
        x.addLeg(0, 0);
        x.addLeg(1, 0);
        x.set(0, 1);
        x.set(1, 20);
        x.lay(0, 0, 0, 20);
        x.lay(1, 0, 0, 99);
        x.set(3, 536);
        // Full in both streets: 12, 100 to the dump, 150, 12, and no time for 300 there and back.
        x.shift();
        int[] first = {3, 12 + 100 + 150 + 12 + 100, 1, 40, 4, 1};
        latests(x, first);
        x.dropLeg(0);
        x.dropLeg(0);
        int[] second = {0, 0, 0, 0, 0, 0};
        x.shift();
        latests(x, second);
        x.undo();
        latests(x, first);
        due("count(11)", x.count(11), 1);
        x.undo();
        x.undo();
        int[][] legs = {{1, 20}, {0, 20}};
        for (int leg = 0; leg < 2; leg++) {
            due("leg(" + leg + ", 2)", x.leg(leg, 2), legs[leg][0]);
            due("leg(" + leg + ", 3)", x.leg(leg, 3), legs[leg][1]);
        }
        x.undo();
        latests(x, NONE, NONE, NONE, NONE, NONE, NONE);
    }

    private static void butNotTheText() {
        SweeperRounds x = says("everything but the text buffer and what faultKind() returns");
        write(x, "1/2/3/4");
        x.load(0);
        x.type(53);
        due("undo()", x.undo(), 0);
        due("count(13)", x.count(13), 8);
        due("load(0)", x.load(0), -17);
        x.shift();
        write(x, "61/");
        due("load(0)", x.load(0), -10);
        due("undo()", x.undo(), 0);
        due("faultKind()", x.faultKind(), 2);
        due("count(13)", x.count(13), 3);
        x.shift();
        x.clearText();
        x.undo();
        due("count(13) after clearText and undo", x.count(13), 0);
    }

    private static void atMostEightStates() {
        says("At most 8 recorded states are remembered");
        for (int changes = 0; changes <= 33; changes++) {
            SweeperRounds x = new SweeperRounds();
            for (int i = 1; i <= changes; i++) {
                x.set(4, i);
            }
            int states = Math.min(changes, 8);
            due("count(14) after " + changes, x.count(14), states);
            for (int i = 1; i <= states; i++) {
                due("undo() of " + changes, x.undo(), states - i);
                due("count(8)", x.count(8), changes == i ? 200 : changes - i);
            }
            due("undo() of none", x.undo(), STATE);
            due("count(14)", x.count(14), 0);
        }
    }

    private static void oldestIsDropped() {
        SweeperRounds x = says("when one more is recorded, the oldest one is dropped");
        for (int i = 1; i <= 8; i++) {
            x.set(4, i);
        }
        due("count(14)", x.count(14), 8);
        x.set(4, 9);
        due("count(14)", x.count(14), 8);
        for (int i = 8; i >= 1; i--) {
            due("undo()", x.undo(), i - 1);
            due("count(8)", x.count(8), i);
        }
        due("undo() to the dropped one", x.undo(), STATE);
        due("count(8)", x.count(8), 1);
    }

    private static void latestIsRestored() {
        SweeperRounds x = says("undo restores the latest one and removes it");
        // A stack of what is due, kept beside the object, over changes and undos in many mixtures.
        int[] stack = new int[500];
        int bottom = 0;
        int top = 0;
        int now = 200;
        for (int i = 1; i <= 240; i++) {
            boolean back = i * i % 7 % 3 == 1 || i % 40 > 30;
            if (!back) {
                stack[top] = now;
                top++;
                bottom = Math.max(bottom, top - 8);
                now = i;
                x.set(4, i);
            } else if (top > bottom) {
                top--;
                now = stack[top];
                due("undo() at " + i, x.undo(), top - bottom);
            } else {
                due("undo() at " + i, x.undo(), STATE);
            }
            due("count(8) at " + i, x.count(8), now);
        }
    }

    private static void undoIsNoChange() {
        SweeperRounds x = says("Restores the latest remembered state, and removes it.");
        x.set(4, 1);
        x.set(4, 2);
        due("undo()", x.undo(), 1);
        due("undo(), not of the undo", x.undo(), 0);
        due("count(8)", x.count(8), 200);
        due("undo()", x.undo(), STATE);
        x.set(4, 3);
        due("undo()", x.undo(), 0);
        due("count(8)", x.count(8), 200);
    }

    private static void undoAnswers() {
        says("Returns how many states are still remembered; STATE if there is none.");
        refused("undo() of a new object", x -> { }, SweeperRounds::undo, STATE);
        refused("undo() of a new object with a text", x -> write(x, "61/"), SweeperRounds::undo, STATE);
        refused("undo() after undo", x -> {
            someWorld(x);
            for (int i = 0; i < 8; i++) {
                x.undo();
            }
        }, SweeperRounds::undo, STATE);
    }

    private static void badFirst() {
        says("If several of them apply to a call, the first one in this order is returned.");
        // BAD before FULL.
        refused("type(127)", ChangeBoundsTest::fullWorld, x -> x.type(127), BAD);
        refused("load(7)", ChangeBoundsTest::fullWorld, x -> x.load(7), BAD);
        refused("addStreet(0, 0, 0)", ChangeBoundsTest::fullWorld, x -> x.addStreet(0, 0, 0), BAD);
        refused("addStreet(1, 61, 0)", ChangeBoundsTest::fullWorld, x -> x.addStreet(1, 61, 0), BAD);
        refused("addStreet(1, 0, 10)", ChangeBoundsTest::fullWorld, x -> x.addStreet(1, 0, 10), BAD);
        refused("addLeg(6, 0)", ChangeBoundsTest::fullWorld, x -> x.addLeg(6, 0), BAD);
        refused("addLeg(0, 2)", ChangeBoundsTest::fullWorld, x -> x.addLeg(0, 2), BAD);
        // BAD before STATE.
        Setup noShift = x -> {
            fullWorld(x);
            x.undo();
            x.undo();
        };
        refused("leg(10, 2)", noShift, x -> x.leg(10, 2), BAD);
        refused("leg(0, 4)", noShift, x -> x.leg(0, 4), BAD);
        refused("leg(0, 2)", noShift, x -> x.leg(0, 2), STATE);
        refused("bestOrder(-1, true)", ChangeBoundsTest::fullWorld, x -> x.bestOrder(-1, true), BAD);
        refused("bestOrder(0, true)", ChangeBoundsTest::fullWorld, x -> x.bestOrder(0, true), STATE);
        // FULL before the fault of the text.
        refused("load(6)", ChangeBoundsTest::fullWorld, x -> x.load(6), FULL);
    }

    private static void refusedChangesNothingWhenNew() {
        says("A call that returns an error code changes nothing.");
        Call[] bad = {x -> x.type(31), x -> x.load(1), x -> x.addStreet(0, 0, 0), x -> x.dropStreet(0), x -> x.lay(0, 0, 0, 0),
            x -> x.park(0, 0, 0, true), x -> x.cell(0, 0, 0, 0), x -> x.street(0, 0), x -> x.set(0, 0), x -> x.addLeg(0, 0),
            x -> x.dropLeg(0), x -> x.leg(0, 0), x -> x.leg(0, 2), x -> x.night(0), x -> x.rain(0), x -> x.latest(6),
            x -> x.ifSpeed(0), x -> x.bestOrder(-1, true), x -> x.nightsTo(0), x -> x.account(7), x -> x.count(15)};
        for (int i = 0; i < bad.length; i++) {
            refused("wrong call " + i, x -> { }, bad[i], BAD);
        }
        refused("undo()", x -> { }, SweeperRounds::undo, STATE);
    }

    private static void refusedChangesNothingInBetween() {
        says("A call that returns an error code changes nothing.");
        Call[] bad = {x -> x.type(-1), x -> x.load(3), x -> x.load(-1), x -> x.addStreet(21, 0, 0), x -> x.addStreet(1, -1, 0),
            x -> x.addStreet(1, 0, -1), x -> x.dropStreet(2), x -> x.dropStreet(-1), x -> x.lay(0, 0, 3, 5),
            x -> x.lay(0, 0, 0, 100), x -> x.lay(0, 0, 0, -1), x -> x.lay(0, 2, 0, 5), x -> x.lay(2, 0, 0, 5),
            x -> x.park(0, 0, 3, true), x -> x.park(0, 2, 0, true), x -> x.park(2, 0, 0, true), x -> x.cell(0, 0, 0, 3),
            x -> x.street(0, 8), x -> x.set(0, 5), x -> x.set(1, 19), x -> x.set(2, 10), x -> x.set(3, 99), x -> x.set(4, -1),
            x -> x.set(5, 401), x -> x.set(6, 1), x -> x.addLeg(2, 0), x -> x.addLeg(0, 2), x -> x.dropLeg(2), x -> x.dropLeg(-1),
            x -> x.leg(2, 0), x -> x.leg(0, 4), x -> x.night(31), x -> x.night(0), x -> x.rain(101), x -> x.rain(0),
            x -> x.latest(-1), x -> x.ifSpeed(5), x -> x.bestOrder(-1, false), x -> x.nightsTo(100), x -> x.account(-1),
            x -> x.count(-1)};
        for (int i = 0; i < bad.length; i++) {
            refused("wrong call " + i, ChangeBoundsTest::someWorld, bad[i], BAD);
        }
    }

    private static void refusedChangesNothingWhenFull() {
        says("and FULL (-3: there is no room)");
        Call[] full = {x -> x.type(32), x -> x.load(6), x -> x.addStreet(1, 0, 0), x -> x.addLeg(0, 0)};
        for (int i = 0; i < full.length; i++) {
            refused("call " + i + " without room", ChangeBoundsTest::fullWorld, full[i], FULL);
        }
        refused("set(1, 29) with a load of 30", ChangeBoundsTest::fullWorld, x -> x.set(1, 29), BAD);
        refused("set(2, 10)", ChangeBoundsTest::fullWorld, x -> x.set(2, 10), BAD);
        refused("dropStreet(6)", ChangeBoundsTest::fullWorld, x -> x.dropStreet(6), BAD);
        refused("dropLeg(10)", ChangeBoundsTest::fullWorld, x -> x.dropLeg(10), BAD);
        refused("bestOrder(9, false)", ChangeBoundsTest::fullWorld, x -> x.bestOrder(9, false), STATE);
        changesNothing("cell(0, 0, 0, 2) without room", x -> {
            fullWorld(x);
            x.lay(0, 0, 0, 99);
        }, x -> x.cell(0, 0, 0, 2), 0);
    }

    private static void noneIsNoError() {
        says("NONE (-9) is no error code; it means that there is no such thing, and is returned only if no error code applies");
        due("BAD", SweeperRounds.BAD, -1);
        due("STATE", SweeperRounds.STATE, -2);
        due("FULL", SweeperRounds.FULL, -3);
        due("NONE", SweeperRounds.NONE, -9);
        SweeperRounds x = new SweeperRounds();
        due("latest(0)", x.latest(0), NONE);
        due("latest(6)", x.latest(6), BAD);
        due("bestOrder(0, true)", x.bestOrder(0, true), NONE);
        due("bestOrder(-1, true)", x.bestOrder(-1, true), BAD);
        due("nightsTo(1)", x.nightsTo(1), NONE);
        due("nightsTo(0)", x.nightsTo(0), BAD);
        fullWorld(x);
        due("bestOrder(10, true) of 10 legs", x.bestOrder(10, true), STATE);
        due("bestOrder(-1, true) of 10 legs", x.bestOrder(-1, true), BAD);
    }

    private static void countAnswers() {
        says("Returns the count; BAD if what is out of range.");
        range("count(.)", x -> { }, SweeperRounds::count, 0, 14);
        range("count(.) when all is full", ChangeBoundsTest::fullWorld, SweeperRounds::count, 0, 14);
    }

    private static void countBounds() {
        SweeperRounds x = says("0 for the streets, 1 for the legs, 2 for the speed, 3 for the brush, 4 for the load in the hopper");
        for (int i = 0; i < 6; i++) {
            x.addStreet(1, 0, 9);
            due("count(0)", x.count(0), i + 1);
        }
        for (int i = 0; i < 10; i++) {
            x.addLeg(0, 0);
            due("count(1)", x.count(1), i + 1);
        }
        for (int i = 1; i <= 3; i++) {
            x.shift();
            due("count(11)", x.count(11), i);
            x.night(30);
            due("count(12)", x.count(12), 30 * i);
        }
        x.undo();
        due("count(12) after undo", x.count(12), 60);
        due("count(11) after undo", x.count(11), 3);
        x.undo();
        due("count(11) after undo of a shift", x.count(11), 2);
    }

    private static void digestOfANewObject() {
        SweeperRounds x = says("h is 18926 at first; then h becomes 31 * h + v (long arithmetic that overflows)");
        long[] values = {0, 0, 2, 1000, 0, 300, 1, 2400, 200, 100, 85, 0, 0, 0, 0, NONE, NONE, NONE, NONE, NONE, NONE,
            0, 0, 0, 0, 0, 0, 0, 0, 0, 0, 0, 1};
        long h = 18926;
        for (long value : values) {
            h = 31 * h + value;
        }
        due("digest()", x.digest(), h);
        due("digest() again", x.digest(), h);
    }

    private static void digestOverflows() {
        SweeperRounds x = says("for each street street() for 0 to 7, and for each side and each cell of it cell() for 0 to 2");
        x.addStreet(2, 10, 3);
        x.lay(0, 0, 1, 50);
        x.park(0, 1, 0, true);
        x.addLeg(0, 1);
        // The brush loses 2, and nothing is taken; 200 + 12 units.
        x.shift();
        x.addLeg(0, 0);
        x.type(65);
        // Behind three cells more the brush is 995, and the grip 99, 84, 69, 54 at speeds 1 to 4: 49, 42, 34, 27 of 50.
        long[] values = {1, 2, 2, 998, 0, 300, 1, 2400, 200, 100, 84, 1, 0, 1, 6,
            2, 10, 3, 50, 0, 1, 50, 2, 0, 0, 0, 50, 0, 42, 0, 1, 0, 0, 0, 0,
            0, 1, STATE, STATE, 0, 0, STATE, STATE, 0, 212, 0, 0, 2, 1, 50, 0, 0, 0, 0, 0, 50, 49, 42, 34, 27, 1};
        java.math.BigInteger h = java.math.BigInteger.valueOf(18926);
        for (long value : values) {
            h = h.multiply(java.math.BigInteger.valueOf(31)).add(java.math.BigInteger.valueOf(value));
        }
        holds("the hash overflows", h.bitLength() > 200);
        due("digest()", x.digest(), h.longValue());
    }

    private static void fiveHundredAndTwelveCalls() {
        SweeperRounds x = says("An object is used for at most 512 calls after it has been made");
        fullWorld(x);
        // fullWorld makes 108 calls, and this 3 * 134.
        for (int i = 1; i <= 134; i++) {
            x.lay(5, 1, 0, i % 100);
            due("count(14)", x.count(14), 8);
            due("cell(5, 1, 0, 0)", x.cell(5, 1, 0, 0), i % 100);
        }
        due("undo() as call 511", x.undo(), 7);
        due("undo() as call 512", x.undo(), 6);
    }
}
