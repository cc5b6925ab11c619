/** The bounds that the document names for the machine and its round: promises 12 to 16, and 19. */
public final class ShiftBoundsTest extends Sentences {
    public static void main(String[] args) {
        standsAtTheDump();
        settings();
        setAnswers();
        capacityNotLessThanLoad();
        brushRange();
        grip();
        unitsOfACell();
        takesOfACell();
        cellLosesWhatHopperGets();
        brushLoses();
        brushLosesByWhatWasTaken();
        brushLosesNoMoreThanThereIs();
        full();
        fullWithoutRoom();
        atMostTenLegs();
        addLegAnswers();
        dropLegAnswers();
        longestShift();
        inTheirOrder();
        driveFromTheDump();
        driveFromAnotherStreet();
        fromFirstToLastCell();
        wayToTheDump();
        onceMoreAndSoOn();
        behindTheLastCell();
        looksBeforeADrive();
        looksBeforeADriveFromAStreet();
        looksBeforeACell();
        looksBeforeAWayToTheDump();
        restOfTheRound();
        lastDrive();
        halfOfTheCapacity();
        newBrush();
        newBrushOnlyAtTheEnd();
        reasons();
        legProperties();
        legState();
        sweptToTheEnd();
        shiftWithoutLegs();
        latestProperties();
        latestStays();
        legOfTheEnd();
        end();
    }

    /** One street with one cell on each side, and a leg on side 0. */
    private static SweeperRounds oneCell(int distance, int speed, int capacity, int dirt) {
        SweeperRounds x = new SweeperRounds();
        x.addStreet(1, distance, 0);
        x.addLeg(0, 0);
        x.set(0, speed);
        x.set(1, capacity);
        x.lay(0, 0, 0, dirt);
        return x;
    }

    private static void shiftIs(String name, SweeperRounds x, int load, int... latest) {
        due("shift() " + name, x.shift(), load);
        int[] want = {latest[0], latest[1], latest[2], load, latest[3], latest[4]};
        for (int i = 0; i < want.length; i++) {
            due("latest(" + i + ") " + name, x.latest(i), want[i]);
        }
    }

    /** Wears the brush by sweeping clean cells; no streets and no spare brushes are left. */
    private static void wear(SweeperRounds x, int brush) {
        x.set(2, 0);
        x.addStreet(20, 0, 0);
        for (int i = 0; i < 10; i++) {
            x.addLeg(0, 0);
        }
        for (int i = 0; i < 5 && x.count(3) - 200 >= brush; i++) {
            x.shift();
        }
        for (int i = 0; i < 10 && 20 * x.count(1) > x.count(3) - brush; i++) {
            x.dropLeg(0);
        }
        x.shift();
        x.dropStreet(0);
        int rest = x.count(3) - brush;
        if (rest > 0) {
            x.addStreet(rest, 0, 0);
            x.addLeg(0, 0);
            x.shift();
            x.dropStreet(0);
        }
        due("count(3) of a brush worn to " + brush, x.count(3), brush);
    }

    /** Gets some load into the hopper, and then makes it as small as is wanted. */
    private static SweeperRounds loaded(int load, int capacity) {
        SweeperRounds x = oneCell(0, 1, 300, load);
        due("shift() for a load", x.shift(), load);
        x.dropStreet(0);
        due("set(1, " + capacity + ")", x.set(1, capacity), 300);
        due("count(4)", x.count(4), load);
        return x;
    }

    private static void standsAtTheDump() {
        says("The machine stands at the dump between shifts.");
        SweeperRounds x = oneCell(7, 2, 300, 0);
        for (int i = 1; i <= 3; i++) {
            shiftIs("number " + i, x, 0, 0, 70 + 6 + 70, 0, 1, 1);
        }
        x.set(3, 145);
        shiftIs("that is broken off", x, 0, 2, 140, 0, 0, 0);
        x.set(3, 2400);
        shiftIs("after it", x, 0, 0, 146, 0, 1, 1);
    }

    private static void settings() {
        says("0 for the speed, 1 for the capacity (not less than the load), 2 for the spare brushes, 3 for the length");
        int[] least = {1, 20, 0, 100, 0, 0};
        int[] most = {4, 2000, 9, 6000, 1000, 400};
        int[] first = {2, 300, 1, 2400, 200, 100};
        int[] counted = {2, 5, 6, 7, 8, 9};
        for (int what = 0; what <= 5; what++) {
            int w = what;
            due("count(" + counted[w] + ") initially", new SweeperRounds().count(counted[w]), first[w]);
            range("set(" + w + ", .)", x -> { }, (x, value) -> x.set(w, value), least[w], most[w]);
            SweeperRounds x = new SweeperRounds();
            x.set(w, least[w]);
            due("count(" + counted[w] + ") at least", x.count(counted[w]), least[w]);
            x.set(w, most[w]);
            for (int i = 0; i <= 5; i++) {
                due("count(" + counted[i] + ") after set(" + w, x.count(counted[i]), i == w ? most[i] : first[i]);
            }
        }
        int[] inAllRanges = {100, 200, 400};
        for (int value : inAllRanges) {
            refused("set(-1, " + value + ")", x -> { }, x -> x.set(-1, value), BAD);
            refused("set(6, " + value + ")", x -> { }, x -> x.set(6, value), BAD);
            refused("set(HIGH, " + value + ")", x -> { }, x -> x.set(HIGH, value), BAD);
            refused("set(LOW, " + value + ")", x -> { }, x -> x.set(LOW, value), BAD);
        }
        refused("set(-1, 1)", x -> { }, x -> x.set(-1, 1), BAD);
        refused("set(6, 1)", x -> { }, x -> x.set(6, 1), BAD);
    }

    private static void setAnswers() {
        SweeperRounds x = says("Returns the number before");
        int[][] values = {{1, 4, 4}, {20, 2000, 20}, {0, 9, 0}, {100, 6000, 100}, {0, 1000, 0}, {0, 400, 0}};
        int[] first = {2, 300, 1, 2400, 200, 100};
        for (int what = 0; what <= 5; what++) {
            int before = first[what];
            for (int value : values[what]) {
                due("set(" + what + ", " + value + ")", x.set(what, value), before);
                before = value;
            }
        }
    }

    private static void capacityNotLessThanLoad() {
        says("the capacity (not less than the load)");
        int[] loads = {20, 21, 84, 99};
        for (int load : loads) {
            range("set(1, .) with a load of " + load, x -> {
                x.addStreet(1, 0, 0);
                x.addLeg(0, 0);
                x.set(0, 1);
                x.lay(0, 0, 0, load);
                due("shift()", x.shift(), load);
            }, (x, value) -> x.set(1, value), load, 2000);
        }
        refused("set(1, 19) with a load of 19", x -> {
            x.addStreet(1, 0, 0);
            x.addLeg(0, 0);
            x.set(0, 1);
            x.lay(0, 0, 0, 19);
            x.shift();
        }, x -> x.set(1, 19), BAD);
        SweeperRounds x = loaded(19, 20);
        due("count(4)", x.count(4), 19);
    }

    private static void brushRange() {
        SweeperRounds x = says("a brush, 0 to 1000 (initially 1000)");
        due("count(3)", x.count(3), 1000);
        wear(x, 1);
        x.addStreet(20, 0, 0);
        x.addLeg(0, 0);
        due("shift()", x.shift(), 0);
        due("count(3)", x.count(3), 0);
        x.set(2, 1);
        x.set(4, 1000);
        x.shift();
        due("count(3) of a new one", x.count(3), 1000);
    }

    private static void grip() {
        says("The grip is (100 - 15 * (speed - 1)) * brush / 1000.");
        int[][] grips = {{1000, 100, 85, 70, 55}, {999, 99, 84, 69, 54}, {500, 50, 42, 35, 27}, {19, 1, 1, 1, 1},
            {18, 1, 1, 1, 0}, {15, 1, 1, 1, 0}, {14, 1, 1, 0, 0}, {12, 1, 1, 0, 0}, {11, 1, 0, 0, 0},
            {10, 1, 0, 0, 0}, {9, 0, 0, 0, 0}, {1, 0, 0, 0, 0}, {0, 0, 0, 0, 0}};
        for (int[] one : grips) {
            SweeperRounds x = new SweeperRounds();
            wear(x, one[0]);
            x.addStreet(1, 0, 0);
            x.lay(0, 0, 0, 99);
            for (int speed = 1; speed <= 4; speed++) {
                x.set(0, speed);
                due("count(10) of brush " + one[0] + ", speed " + speed, x.count(10), one[speed]);
                due("cell(0, 0, 0, 2) of that", x.cell(0, 0, 0, 2), 99 * one[speed] / 100);
            }
        }
    }

    private static void unitsOfACell() {
        says("To sweep a cell of a side takes 12 / speed units.");
        int[] units = {12, 6, 4, 3};
        for (int speed = 1; speed <= 4; speed++) {
            shiftIs("at speed " + speed, oneCell(0, speed, 300, 0), 0, 0, units[speed - 1], 0, 1, 1);
        }
        SweeperRounds x = oneCell(0, 1, 300, 99);
        x.park(0, 0, 0, true);
        shiftIs("of a parked cell", x, 0, 0, 12, 0, 1, 1);
    }

    private static void takesOfACell() {
        says("the machine takes dirt * grip / 100 of it, but not more than there is room for in the hopper");
        // At speed 2 the grip is 85.
        int[][] takes = {{0, 0}, {1, 0}, {2, 1}, {3, 2}, {20, 17}, {99, 84}};
        for (int[] one : takes) {
            SweeperRounds x = oneCell(0, 2, 300, one[0]);
            due("shift() over " + one[0], x.shift(), one[1]);
            dirts(x, 0, 0, one[0] - one[1]);
        }
        // Room for 84 is just enough for 99; room for 83 is not.
        shiftIs("with room for 84", oneCell(5, 2, 84, 99), 84, 0, 50 + 6 + 200 + 50, 1, 9, 1);
        SweeperRounds x = oneCell(5, 2, 83, 99);
        // 83, loses 9, and of the 16 that are left 16 * 84 / 100 = 13.
        shiftIs("with room for 83", x, 83 + 13, 0, 50 + 6 + 200 + 6 + 50, 1, 9 + 2, 1);
        dirts(x, 0, 0, 3);
    }

    private static void cellLosesWhatHopperGets() {
        says("this is the load that the cell loses and the hopper gets");
        SweeperRounds x = oneCell(0, 1, 300, 99);
        due("shift()", x.shift(), 99);
        dirts(x, 0, 0, 0);
        due("count(4)", x.count(4), 99);
        x.lay(0, 0, 0, 99);
        // The brush is 995, the grip 99.
        due("shift() once more", x.shift(), 98);
        dirts(x, 0, 0, 1);
        accounts(x, 198, 0, 0, 0, 0, 197, 1);
        due("count(4) after the half was dumped", x.count(4), 0);
    }

    private static void brushLoses() {
        says("Then the brush loses 1 + load * speed / 20");
        int[][] losses = {{1, 0, 0, 1}, {1, 19, 19, 1}, {1, 20, 20, 2}, {1, 39, 39, 2}, {1, 40, 40, 3}, {1, 99, 99, 5},
            {2, 11, 9, 1}, {2, 12, 10, 2}, {2, 22, 18, 2}, {2, 24, 20, 3}, {2, 99, 84, 9},
            {3, 9, 6, 1}, {3, 10, 7, 2}, {3, 19, 13, 2}, {3, 20, 14, 3}, {3, 99, 69, 11},
            {4, 8, 4, 1}, {4, 10, 5, 2}, {4, 18, 9, 2}, {4, 19, 10, 3}, {4, 99, 54, 11}};
        for (int[] one : losses) {
            SweeperRounds x = oneCell(0, one[0], 300, one[1]);
            String name = "at speed " + one[0] + " over " + one[1];
            due("shift() " + name, x.shift(), one[2]);
            due("latest(4) " + name, x.latest(4), one[3]);
            due("count(3) " + name, x.count(3), 1000 - one[3]);
        }
    }

    private static void brushLosesByWhatWasTaken() {
        says("(with the load that was taken, which is 0 if the cell is parked)");
        // 20 four times, with a loss of 2 each, then 19 * 99 / 100 = 18 with a loss of 1.
        SweeperRounds x = oneCell(0, 1, 20, 99);
        shiftIs("with room for 20", x, 98, 0, 5 * 12 + 4 * 100, 4, 9, 1);
        dirts(x, 0, 0, 1);
        x = oneCell(0, 1, 300, 99);
        x.park(0, 0, 0, true);
        shiftIs("over a parked cell", x, 0, 0, 12, 0, 1, 1);
        due("count(3)", x.count(3), 999);
        dirts(x, 0, 0, 99);
    }

    private static void brushLosesNoMoreThanThereIs() {
        says("but not more than there is of it");
        int[][] brushes = {{4, 3, 1}, {3, 3, 0}, {2, 2, 0}, {1, 1, 0}, {0, 0, 0}};
        for (int[] one : brushes) {
            SweeperRounds x = new SweeperRounds();
            wear(x, one[0]);
            x.addStreet(3, 0, 0);
            x.addLeg(0, 0);
            x.lay(0, 0, 1, 99);
            shiftIs("with a brush of " + one[0], x, 0, 0, 18, 0, one[1], 1);
            due("count(3)", x.count(3), one[2]);
            due("leg(0, 2)", x.leg(0, 2), 3);
        }
    }

    private static void full() {
        says("The machine is full if it could have taken more than there was room for, or there is no room left then");
        // At speed 1 with a capacity of 20; the grip is 100 at first, and 99 after a loss of 2.
        shiftIs("over 19", oneCell(5, 1, 20, 19), 19, 0, 50 + 12 + 50, 0, 1, 1);
        shiftIs("over 20", oneCell(5, 1, 20, 20), 20, 0, 50 + 12 + 200 + 50, 1, 2, 1);
        shiftIs("over 21", oneCell(5, 1, 20, 21), 20, 0, 50 + 12 + 200 + 12 + 50, 1, 3, 1);
        shiftIs("over 22", oneCell(5, 1, 20, 22), 21, 0, 50 + 12 + 200 + 12 + 50, 1, 3, 1);
    }

    private static void fullWithoutRoom() {
        says("or there is no room left then (also behind a parked cell)");
        int once = 50 + 12 + 200 + 50;
        String[] names = {"a clean cell", "a parked clean cell", "a parked cell", "a cell", "a cell of which nothing goes"};
        int[][] cells = {{0, 0, 0, once, 1}, {0, 1, 0, once, 1}, {99, 1, 0, once, 1}, {10, 0, 9, once + 12, 2},
            {1, 0, 0, once, 1}};
        for (int i = 0; i < cells.length; i++) {
            SweeperRounds x = loaded(20, 20);
            x.addStreet(1, 5, 0);
            x.addLeg(0, 0);
            x.lay(0, 0, 0, cells[i][0]);
            x.park(0, 0, 0, cells[i][1] == 1);
            // The brush has lost 2, and the grip is 99.
            shiftIs("without room over " + names[i], x, cells[i][2], 0, cells[i][3], 1, cells[i][4], 1);
            due("account(5)", x.account(5), 20);
            due("leg(0, 2)", x.leg(0, 2), 1);
        }
        SweeperRounds x = loaded(20, 21);
        x.addStreet(1, 5, 0);
        x.addLeg(0, 0);
        x.park(0, 0, 0, true);
        shiftIs("with room for 1 over a parked cell", x, 0, 0, 50 + 12 + 50, 0, 1, 1);
    }

    private static void twoStreets(SweeperRounds x, int legs) {
        x.addStreet(1, 0, 0);
        x.addStreet(2, 0, 0);
        for (int i = 0; i < legs; i++) {
            due("addLeg", x.addLeg(i % 2, i / 5), i);
        }
    }

    private static void atMostTenLegs() {
        says("The round consists of at most 10 legs, numbered from 0, each a street and a side");
        refused("addLeg with 10", x -> twoStreets(x, 10), x -> x.addLeg(0, 0), FULL);
        SweeperRounds x = made(y -> twoStreets(y, 10));
        due("count(1)", x.count(1), 10);
        for (int i = 0; i < 10; i++) {
            due("leg(" + i + ", 0)", x.leg(i, 0), i % 2);
            due("leg(" + i + ", 1)", x.leg(i, 1), i / 5);
        }
        x.dropLeg(0);
        due("addLeg with 9", x.addLeg(0, 0), 9);
        due("addLeg with 10", x.addLeg(0, 0), FULL);
        x = says("(a street can be in it several times)");
        x.addStreet(1, 0, 0);
        for (int i = 0; i < 10; i++) {
            due("addLeg(0, 1)", x.addLeg(0, 1), i);
        }
        shiftIs("ten times over the same cell", x, 0, 0, 60, 0, 10, 10);
    }

    private static void addLegAnswers() {
        says("Returns its number; BAD if there is no such street or side; FULL if there are 10 legs.");
        range("addLeg(., 0)", x -> twoStreets(x, 9), (x, s) -> x.addLeg(s, 0), 0, 1);
        range("addLeg(1, .)", x -> twoStreets(x, 9), (x, side) -> x.addLeg(1, side), 0, 1);
        refused("addLeg(0, 0) without streets", x -> { }, x -> x.addLeg(0, 0), BAD);
        int[][] bad = {{2, 0}, {-1, 0}, {0, 2}, {0, -1}, {LOW, HIGH}, {HIGH, LOW}};
        for (int[] one : bad) {
            String name = "addLeg(" + one[0] + ", " + one[1] + ") with 10";
            refused(name, x -> twoStreets(x, 10), x -> x.addLeg(one[0], one[1]), BAD);
        }
    }

    private static void dropLegAnswers() {
        says("Returns how many legs are left; BAD if there is no such leg.");
        range("dropLeg(.) of 10", x -> twoStreets(x, 10), SweeperRounds::dropLeg, 0, 9);
        range("dropLeg(.) of 1", x -> twoStreets(x, 1), SweeperRounds::dropLeg, 0, 0);
        refused("dropLeg(0) of none", x -> twoStreets(x, 0), x -> x.dropLeg(0), BAD);
        for (int gone = 0; gone < 10; gone++) {
            SweeperRounds x = made(y -> twoStreets(y, 10));
            due("dropLeg(" + gone + ")", x.dropLeg(gone), 9);
            for (int i = 0; i < 9; i++) {
                int old = i + (i >= gone ? 1 : 0);
                due("leg(" + i + ", 0)", x.leg(i, 0), old % 2);
                due("leg(" + i + ", 1)", x.leg(i, 1), old / 5);
            }
            due("leg(9, 0)", x.leg(9, 0), BAD);
        }
        SweeperRounds x = made(y -> twoStreets(y, 10));
        for (int left = 9; left >= 0; left--) {
            due("dropLeg(0)", x.dropLeg(0), left);
        }
        due("dropLeg(0) of none", x.dropLeg(0), BAD);
    }

    private static void longestShift() {
        says("A shift has a length of 100 to 6000 units (initially 2400).");
        for (int units = 5999; units <= 6000; units++) {
            SweeperRounds x = new SweeperRounds();
            x.addStreet(20, 60, 0);
            for (int i = 0; i < 5; i++) {
                x.addLeg(0, 0);
            }
            x.set(0, 1);
            x.set(1, 20);
            // Full three times, with 20 and 20 of 60, and with 19 and 1 of the next cell.
            x.lay(0, 0, 0, 60);
            x.lay(0, 0, 1, 2);
            x.set(3, units);
            // 600 there and back, three ways of 1300, and 900 for 75 sweeps, two of them once more.
            int sweeps = units == 6000 ? 75 : 74;
            shiftIs("of " + units, x, 60, 2, 5100 + 12 * sweeps, 3, sweeps + 2, 3);
            due("leg(2, 2)", x.leg(2, 2), 20);
            due("leg(3, 2)", x.leg(3, 2), sweeps - 62);
            due("leg(4, 2)", x.leg(4, 2), 0);
        }
    }

    private static void inTheirOrder() {
        says("In a shift the legs are gone through in their order");
        for (int first = 0; first < 2; first++) {
            SweeperRounds x = new SweeperRounds();
            x.addStreet(1, 0, 0);
            x.addStreet(1, 60, 0);
            x.lay(0, 0, 0, 10);
            x.lay(1, 0, 0, 20);
            x.addLeg(first, 0);
            x.addLeg(1 - first, 0);
            x.set(3, 1261);
            // Both need 6 + 650 + 6 + 600.
            int load = first == 0 ? 8 : 17;
            int loss = first == 0 ? 1 : 2;
            shiftIs("from street " + first, x, load, 2, 6 + 650 + 600, 0, loss, 1);
        }
    }

    private static void driveFromTheDump() {
        says("10 * distance units from the dump");
        int[] distances = {0, 1, 59, 60};
        for (int distance : distances) {
            shiftIs("at " + distance, oneCell(distance, 2, 300, 0), 0, 0, 20 * distance + 6, 0, 1, 1);
        }
    }

    private static void driveFromAnotherStreet() {
        says("and 10 * (absolute difference of the distances) + 50 units from another street (0 from the same one)");
        int[][] pairs = {{0, 0, 50}, {60, 60, 50}, {0, 60, 650}, {60, 0, 650}, {30, 31, 60}, {31, 30, 60}};
        for (int[] one : pairs) {
            SweeperRounds x = new SweeperRounds();
            x.addStreet(1, one[0], 0);
            x.addStreet(1, one[1], 0);
            x.addLeg(0, 0);
            x.addLeg(1, 0);
            int units = 10 * one[0] + 6 + one[2] + 6 + 10 * one[1];
            shiftIs("from " + one[0] + " to " + one[1], x, 0, 0, units, 0, 2, 2);
        }
        SweeperRounds x = oneCell(60, 2, 300, 0);
        x.addLeg(0, 1);
        x.addLeg(0, 1);
        shiftIs("in the same street", x, 0, 0, 600 + 6 + 6 + 6 + 600, 0, 3, 3);
    }

    private static void fromFirstToLastCell() {
        says("It sweeps the cells of the side from cell 0 to cell n - 1");
        int[] lengths = {1, 2, 19, 20};
        for (int n : lengths) {
            SweeperRounds x = new SweeperRounds();
            x.addStreet(n, 0, 0);
            x.addLeg(0, 1);
            for (int i = 0; i < n; i++) {
                x.lay(0, 1, i, 2);
                x.lay(0, 0, i, 3);
            }
            x.set(0, 1);
            x.set(3, 6000);
            // Of 2 it takes 2 with a grip of 100, and 1 after the first cell.
            shiftIs("over " + n, x, 1 + n, 0, 12 * n, 0, n, 1);
            due("leg(0, 2)", x.leg(0, 2), n);
            dirts(x, 0, 1, 0);
            due("street(0, 4)", x.street(0, 4), n - 1);
            due("street(0, 3)", x.street(0, 3), 3 * n);
        }
        SweeperRounds x = new SweeperRounds();
        x.addStreet(20, 0, 0);
        x.addLeg(0, 0);
        x.set(3, 100);
        x.lay(0, 0, 15, 50);
        x.lay(0, 0, 16, 50);
        due("shift() with time for 16 cells", x.shift(), 41);
        due("leg(0, 2)", x.leg(0, 2), 16);
        dirts(x, 0, 0, 0, 0, 0, 0, 0, 0, 0, 0, 0, 0, 0, 0, 0, 0, 0, 9, 50, 0);
    }

    private static void wayToTheDump() {
        says("it drives to the dump (10 * distance), empties its hopper there (100 units; the load is dumped) and drives");
        int[] distances = {0, 1, 59, 60};
        for (int distance : distances) {
            SweeperRounds x = oneCell(distance, 1, 20, 20);
            x.set(3, 6000);
            shiftIs("at " + distance, x, 20, 0, 20 * distance + 12 + 20 * distance + 100, 1, 2, 1);
            due("account(5)", x.account(5), 20);
            due("count(4)", x.count(4), 0);
        }
        // The next cell is taken into an empty hopper.
        SweeperRounds x = new SweeperRounds();
        x.addStreet(2, 0, 0);
        x.addLeg(0, 0);
        x.set(0, 1);
        x.set(1, 20);
        x.lay(0, 0, 0, 20);
        x.lay(0, 0, 1, 9);
        shiftIs("with a cell behind it", x, 20 + 8, 0, 12 + 100 + 12, 1, 2 + 1, 1);
        due("count(4)", x.count(4), 8);
        due("account(5)", x.account(5), 20);
    }

    private static void onceMoreAndSoOn() {
        says("(and drives to the dump once more if it is full again then, and so on), and goes on with the next one");
        // 20, 20, 20, 20 * 99 / 100 = 19 and the next cell; the brush loses 2, 2, 2, 1.
        SweeperRounds x = new SweeperRounds();
        x.addStreet(2, 0, 0);
        x.addLeg(0, 0);
        x.set(0, 1);
        x.set(1, 20);
        x.lay(0, 0, 0, 80);
        x.lay(0, 0, 1, 1);
        shiftIs("over 80", x, 79, 0, 4 * 12 + 300 + 12, 3, 8, 1);
        dirts(x, 0, 0, 1, 1);
        // 20, and the 20 * 99 / 100 that are left are not full; over 41, 20 of 20 are: 21 * 99 / 100 = 20.
        shiftIs("over 40", oneCell(0, 1, 20, 40), 39, 0, 2 * 12 + 100, 1, 3, 1);
        shiftIs("over 41", oneCell(0, 1, 20, 41), 40, 0, 2 * 12 + 200, 2, 4, 1);
        shiftIs("over 42", oneCell(0, 1, 20, 42), 41, 0, 3 * 12 + 200, 2, 5, 1);
    }

    private static void behindTheLastCell() {
        says("(Behind the last cell of a leg it does so, too, also of the last leg.)");
        SweeperRounds x = new SweeperRounds();
        x.addStreet(2, 5, 0);
        x.addStreet(1, 7, 0);
        x.addLeg(0, 0);
        x.addLeg(1, 0);
        x.set(0, 1);
        x.set(1, 20);
        // Behind the clean first cell the grip is 99: of 21 it takes 20, and the brush loses 2.
        x.lay(0, 0, 1, 21);
        x.lay(1, 0, 0, 21);
        shiftIs("with both legs full at their ends", x, 40, 0, 50 + 24 + 200 + 70 + 12 + 240 + 70, 2, 5, 2);
        due("account(5)", x.account(5), 40);
    }

    private static void looksBeforeADrive() {
        says("Before each drive to a leg, .. it looks whether this and the drive .. to the dump .. are .. at most the rest");
        int[] distances = {6, 30, 60};
        for (int distance : distances) {
            SweeperRounds x = oneCell(distance, 2, 300, 50);
            x.set(3, 20 * distance - 1);
            shiftIs("one unit too short for " + distance, x, 0, 1, 0, 0, 0, 0);
            x.set(3, 20 * distance);
            shiftIs("just long enough for " + distance, x, 0, 2, 20 * distance, 0, 0, 0);
        }
        SweeperRounds x = oneCell(5, 2, 300, 50);
        x.set(3, 100);
        shiftIs("of the shortest length", x, 0, 2, 100, 0, 0, 0);
        x = oneCell(0, 2, 300, 50);
        x.set(3, 100);
        shiftIs("at the dump itself", x, 42, 0, 6, 0, 5, 1);
    }

    private static void looksBeforeADriveFromAStreet() {
        says("the drive from the place where it would be then to the dump (10 * distance)");
        int[][] pairs = {{10, 20, 150}, {20, 10, 150}, {10, 10, 50}, {0, 60, 650}, {60, 0, 650}};
        for (int[] one : pairs) {
            SweeperRounds x = new SweeperRounds();
            x.addStreet(1, one[0], 0);
            x.addStreet(1, one[1], 0);
            x.addLeg(0, 0);
            x.addLeg(1, 0);
            int units = 10 * one[0] + 6 + one[2] + 10 * one[1];
            String name = " from " + one[0] + " to " + one[1];
            x.set(3, units - 1);
            shiftIs("one unit too short" + name, x, 0, 1, 20 * one[0] + 6, 0, 1, 1);
            x.set(3, units);
            shiftIs("just long enough" + name, x, 0, 2, units, 0, 1, 1);
            x.set(3, units + 5);
            shiftIs("one unit too short for the cell" + name, x, 0, 2, units, 0, 1, 1);
            x.set(3, units + 6);
            shiftIs("with time for the cell" + name, x, 0, 0, units + 6, 0, 2, 2);
        }
        // To a leg in the same street there is always time, but not for its cell.
        SweeperRounds x = oneCell(10, 2, 300, 0);
        x.addLeg(0, 1);
        x.set(3, 206);
        shiftIs("in the same street", x, 0, 2, 206, 0, 1, 1);
    }

    private static void looksBeforeACell() {
        says("each sweep of a cell");
        int[] units = {12, 6, 4, 3};
        for (int speed = 1; speed <= 4; speed++) {
            int cell = units[speed - 1];
            for (int cells = 1; cells <= 3; cells++) {
                SweeperRounds x = new SweeperRounds();
                x.addStreet(3, 10, 0);
                x.addLeg(0, 0);
                x.set(0, speed);
                x.set(3, 200 + cells * cell - 1);
                String name = " for " + cells + " cells at speed " + speed;
                shiftIs("one unit too short" + name, x, 0, 2, 200 + (cells - 1) * cell, 0, cells - 1, 0);
                due("leg(0, 2)" + name, x.leg(0, 2), cells - 1);
                x.set(3, 200 + cells * cell);
                int through = cells == 3 ? 1 : 0;
                shiftIs("just long enough" + name, x, 0, 2 - 2 * through, 200 + cells * cell, 0, cells, through);
                due("leg(0, 2)" + name, x.leg(0, 2), cells);
            }
        }
        // Near the dump, 100 units are time for 16 cells at speed 2, and 96 are used.
        SweeperRounds x = new SweeperRounds();
        x.addStreet(20, 0, 0);
        x.addLeg(0, 0);
        x.set(3, 101);
        shiftIs("of 101", x, 0, 2, 96, 0, 16, 0);
        x.set(3, 102);
        shiftIs("of 102", x, 0, 2, 102, 0, 17, 0);
    }

    private static void looksBeforeAWayToTheDump() {
        says("and each way to the dump and back (20 * distance + 100)");
        // At distance 10 and speed 1 with room for 20: 100 there, 12, 300 for the way, 12, 300, 12, 300 ..
        int[][] lengths = {{211, 0, 2, 200, 0, 0}, {212, 20, 3, 212, 0, 2}, {511, 20, 3, 212, 0, 2},
            {512, 20, 2, 512, 1, 2}, {523, 20, 2, 512, 1, 2}, {524, 40, 3, 524, 1, 4}, {823, 40, 3, 524, 1, 4},
            {824, 40, 2, 824, 2, 4}, {835, 40, 2, 824, 2, 4}, {836, 60, 3, 836, 2, 6}};
        for (int[] one : lengths) {
            SweeperRounds x = oneCell(10, 1, 20, 99);
            x.set(3, one[0]);
            shiftIs("of " + one[0], x, one[1], one[2], one[3], one[4], one[5], 0);
            due("leg(0, 2) of " + one[0], x.leg(0, 2), 0);
            due("account(5) of " + one[0], x.account(5), one[1]);
        }
        // Behind a cell of which all was taken; 12 units at the dump itself.
        SweeperRounds x = oneCell(0, 1, 20, 20);
        x.set(3, 111);
        shiftIs("of 111 at the dump", x, 20, 3, 12, 0, 2, 0);
        x = oneCell(0, 1, 20, 20);
        x.set(3, 112);
        shiftIs("of 112 at the dump", x, 20, 0, 112, 1, 2, 1);
    }

    private static void restOfTheRound() {
        says("If not, the round is broken off.");
        SweeperRounds x = new SweeperRounds();
        x.addStreet(1, 60, 0);
        x.addStreet(1, 0, 0);
        x.addLeg(0, 0);
        x.addLeg(1, 0);
        x.lay(1, 0, 0, 50);
        x.set(3, 1199);
        shiftIs("before a far leg, with a near one behind it", x, 0, 1, 0, 0, 0, 0);
        due("leg(1, 2)", x.leg(1, 2), 0);
        x.set(3, 1205);
        shiftIs("before its cell", x, 0, 2, 1200, 0, 0, 0);
        due("leg(1, 2)", x.leg(1, 2), 0);
        // Behind a full cell there is no way to the dump, and the clean cell behind it isn't swept.
        x = new SweeperRounds();
        x.addStreet(2, 10, 0);
        x.addLeg(0, 0);
        x.addLeg(0, 1);
        x.set(0, 1);
        x.set(1, 20);
        x.lay(0, 0, 0, 20);
        x.set(3, 511);
        shiftIs("before a way to the dump", x, 20, 3, 212, 0, 2, 0);
        due("leg(0, 2)", x.leg(0, 2), 1);
        due("leg(1, 2)", x.leg(1, 2), 0);
    }

    private static void lastDrive() {
        SweeperRounds x = says("the machine drives to the dump from where it is (0 if it is there)");
        shiftIs("without streets", x, 0, 0, 0, 0, 0, 0);
        x.addStreet(1, 60, 0);
        shiftIs("without legs", x, 0, 0, 0, 0, 0, 0);
        x.addLeg(0, 0);
        x.set(3, 1199);
        shiftIs("broken off at the dump", x, 0, 1, 0, 0, 0, 0);
        x.set(3, 1200);
        shiftIs("broken off in a street", x, 0, 2, 1200, 0, 0, 0);
        x.set(3, 6000);
        shiftIs("through", x, 0, 0, 1206, 0, 1, 1);
    }

    private static void halfOfTheCapacity() {
        says("if its load is at least half of the capacity (2 * load >= capacity), it empties its hopper there (this takes");
        int[][] halves = {{9, 20, 0}, {10, 20, 1}, {11, 20, 1}, {10, 21, 0}, {11, 21, 1}, {19, 40, 0}, {20, 40, 1},
            {20, 41, 0}, {1, 20, 0}, {99, 199, 0}, {99, 198, 1}, {20, 20, 1}, {19, 20, 1}};
        for (int[] one : halves) {
            SweeperRounds x = loaded(one[0], one[1]);
            shiftIs("with " + one[0] + " of " + one[1], x, 0, 0, 0, 0, 0, 0);
            due("count(4) with " + one[0] + " of " + one[1], x.count(4), one[2] == 1 ? 0 : one[0]);
            due("account(5) with " + one[0] + " of " + one[1], x.account(5), one[2] == 1 ? one[0] : 0);
        }
        // 99 + 98 + 98 + 97 + 97 + 96 + 96 + 95 + 95 + 94 = 965, with a loss of 5 each; then the grip is 95.
        for (int more = 36; more <= 37; more++) {
            SweeperRounds x = new SweeperRounds();
            write(x, "0/0/" + times(11, "0") + "/" + times(11, "0"));
            x.load(0);
            for (int i = 0; i < 10; i++) {
                x.lay(0, 0, i, 99);
            }
            x.lay(0, 0, 10, more);
            x.addLeg(0, 0);
            x.set(0, 1);
            x.set(1, 2000);
            due("shift() with " + more + " in the last cell", x.shift(), 963 + more);
            due("count(4) of 2000", x.count(4), more == 36 ? 999 : 0);
        }
    }

    private static void newBrush() {
        says("If the brush is less than the limit then (0 to 1000; initially 200) and there is a spare brush, it gets a new");
        // The brush before, the limit, the spares; the brush then, the spares then.
        int[][] brushes = {{1000, 1000, 9, 1000, 9}, {999, 1000, 9, 1000, 8}, {999, 999, 9, 999, 9},
            {999, 1000, 1, 1000, 0}, {999, 1000, 0, 999, 0}, {200, 200, 1, 200, 1}, {199, 200, 1, 1000, 0},
            {199, 200, 0, 199, 0}, {0, 0, 9, 0, 9}, {0, 1, 9, 1000, 8}, {1, 1, 9, 1, 9}, {0, 1000, 2, 1000, 1}};
        for (int[] one : brushes) {
            SweeperRounds x = new SweeperRounds();
            wear(x, one[0]);
            x.set(4, one[1]);
            x.set(2, one[2]);
            String name = "with a brush of " + one[0] + ", a limit of " + one[1] + " and spares of " + one[2];
            shiftIs(name, x, 0, 0, 0, 0, 0, 0);
            due("count(3) " + name, x.count(3), one[3]);
            due("count(6) " + name, x.count(6), one[4]);
        }
        SweeperRounds x = new SweeperRounds();
        wear(x, 201);
        x.set(2, 1);
        x.addStreet(1, 0, 0);
        x.addLeg(0, 0);
        shiftIs("that ends at the first limit", x, 0, 0, 6, 0, 1, 1);
        due("count(3)", x.count(3), 200);
        shiftIs("that ends under the first limit", x, 0, 0, 6, 0, 1, 1);
        due("count(3)", x.count(3), 1000);
        due("count(6)", x.count(6), 0);
    }

    private static void newBrushOnlyAtTheEnd() {
        SweeperRounds x = says("less than the limit then");
        wear(x, 1);
        x.set(2, 9);
        x.set(4, 1000);
        x.addStreet(2, 0, 0);
        x.addLeg(0, 0);
        x.lay(0, 0, 1, 99);
        shiftIs("with a brush of 1", x, 0, 0, 12, 0, 1, 1);
        due("count(3)", x.count(3), 1000);
        due("count(6)", x.count(6), 8);
        x = new SweeperRounds();
        wear(x, 100);
        x.set(2, 1);
        x.set(3, 100);
        x.addStreet(1, 60, 0);
        x.addLeg(0, 0);
        shiftIs("broken off", x, 0, 1, 0, 0, 0, 0);
        due("count(3) after a broken-off round", x.count(3), 1000);
    }

    private static void reasons() {
        says("0 if the round was through, 1 if it was broken off before a drive to a leg, 2 before a cell, 3 before a way");
        int[][] lengths = {{199, 1}, {200, 2}, {211, 2}, {212, 3}, {511, 3}, {512, 0}, {6000, 0}};
        for (int[] one : lengths) {
            SweeperRounds x = oneCell(10, 1, 20, 20);
            x.set(3, one[0]);
            x.shift();
            due("latest(0) of a shift of " + one[0], x.latest(0), one[1]);
        }
    }

    private static void legProperties() {
        says("0 for its street, 1 for its side, 2 for how many cells of it were swept .. 3 for the load");
        Setup state = x -> {
            twoStreets(x, 10);
            x.shift();
        };
        range("leg(9, .)", state, (x, what) -> x.leg(9, what), 0, 3);
        for (int what = 0; what <= 3; what++) {
            int w = what;
            range("leg(., " + w + ") of 10", state, (x, leg) -> x.leg(leg, w), 0, 9);
            refused("leg(0, " + w + ") of none", x -> twoStreets(x, 0), x -> x.leg(0, w), BAD);
        }
    }

    private static void legState() {
        says("BAD if there is no such leg or what is out of range; STATE for 2 and 3 if there was no shift, or");
        Setup noShift = x -> twoStreets(x, 10);
        Setup added = x -> {
            twoStreets(x, 10);
            x.shift();
            x.addStreet(1, 1, 1);
        };
        Setup[] states = {noShift, added};
        for (Setup state : states) {
            for (int what = 2; what <= 3; what++) {
                int w = what;
                refused("leg(0, " + w + ")", state, x -> x.leg(0, w), STATE);
                refused("leg(9, " + w + ")", state, x -> x.leg(9, w), STATE);
                refused("leg(10, " + w + ")", state, x -> x.leg(10, w), BAD);
                refused("leg(-1, " + w + ")", state, x -> x.leg(-1, w), BAD);
            }
            refused("leg(0, 4)", state, x -> x.leg(0, 4), BAD);
            refused("leg(0, -1)", state, x -> x.leg(0, -1), BAD);
            due("leg(9, 0)", made(state).leg(9, 0), 1);
            due("leg(9, 1)", made(state).leg(9, 1), 1);
        }
        says("or a street or a leg was added, removed or replaced since the latest one");
        Call[] others = {x -> x.load(2), x -> x.load(0), x -> x.addStreet(1, 1, 1), x -> x.dropStreet(1), x -> x.addLeg(0, 0),
            x -> x.dropLeg(4)};
        Call[] nothing = {x -> x.lay(0, 0, 0, 9), x -> x.park(0, 0, 0, true), x -> x.set(0, 4), x -> x.night(1), x -> x.rain(9),
            x -> x.load(3), x -> x.addStreet(0, 0, 0), x -> x.dropStreet(2), x -> x.addLeg(2, 0), x -> x.dropLeg(5),
            x -> x.bestOrder(0, true), x -> x.ifSpeed(1), x -> x.bestSpeed(), x -> x.nightsTo(1), x -> x.type(32)};
        for (int i = 0; i < others.length + nothing.length; i++) {
            SweeperRounds x = new SweeperRounds();
            twoStreets(x, 5);
            write(x, "1/1/1/1");
            x.shift();
            (i < others.length ? others[i] : nothing[i - others.length]).on(x);
            due("leg(0, 2) after call " + i, x.leg(0, 2), i < others.length ? STATE : 1);
            due("leg(0, 3) after call " + i, x.leg(0, 3), i < others.length ? STATE : 0);
            x.shift();
            due("leg(0, 2) after a shift", x.leg(0, 2), 1);
            x.undo();
            due("leg(0, 2) after undo of it", x.leg(0, 2), i < others.length ? STATE : 1);
            if (i < others.length) {
                x.undo();
                due("leg(0, 2) after undo of both", x.leg(0, 2), 1);
            }
        }
    }

    private static void sweptToTheEnd() {
        says("how many cells of it were swept to their end in the latest shift (a cell that has to be swept once more is not");
        // At distance 10 and speed 1 with room for 20: over 20 it need not sweep once more, over 21 it must.
        int[][] cells = {{20, 512, 1, 20}, {20, 511, 1, 20}, {21, 512, 0, 20}, {21, 511, 0, 20}, {21, 523, 0, 20},
            {21, 524, 1, 20}, {22, 524, 1, 21}};
        for (int[] one : cells) {
            SweeperRounds x = oneCell(10, 1, 20, one[0]);
            x.set(3, one[1]);
            x.shift();
            due("leg(0, 2) over " + one[0] + " in " + one[1], x.leg(0, 2), one[2]);
            due("leg(0, 3) over " + one[0] + " in " + one[1], x.leg(0, 3), one[3]);
            x.set(3, 100);
            shiftIs("without it", x, 0, 1, 0, 0, 0, 0);
            due("leg(0, 2) after a shift without it", x.leg(0, 2), 0);
            due("leg(0, 3) after a shift without it", x.leg(0, 3), 0);
        }
    }

    private static void shiftWithoutLegs() {
        SweeperRounds x = says("Carries out a shift (also without legs).");
        for (int i = 1; i <= 9; i++) {
            due("shift() " + i, x.shift(), 0);
            due("count(11)", x.count(11), i);
            due("count(14)", x.count(14), Math.min(i, 8));
        }
        due("count(3)", x.count(3), 1000);
        latests(x, 0, 0, 0, 0, 0, 0);
    }

    private static void latestProperties() {
        says("Returns the number; NONE if there was no shift; BAD if what is out of range.");
        range("latest(.)", SweeperRounds::shift, SweeperRounds::latest, 0, 5);
        int[] beyond = {-1, 6, LOW, HIGH, 65536};
        for (int what : beyond) {
            refused("latest(" + what + ") without a shift", x -> { }, x -> x.latest(what), BAD);
        }
        for (int what = 0; what <= 5; what++) {
            int w = what;
            refused("latest(" + w + ") without a shift", x -> twoStreets(x, 10), x -> x.latest(w), NONE);
            SweeperRounds x = made(SweeperRounds::shift);
            x.undo();
            due("latest(" + w + ") after undo of the only shift", x.latest(w), NONE);
        }
    }

    private static void latestStays() {
        says("(it stays when streets and legs become others)");
        SweeperRounds x = oneCell(10, 1, 20, 99);
        x.set(3, 824);
        int[] want = {2, 824, 2, 40, 4, 0};
        x.shift();
        Call[] calls = {y -> y.addLeg(0, 1), y -> y.addStreet(1, 1, 1), y -> y.dropLeg(0), y -> y.load(0), y -> y.dropStreet(0),
            y -> y.dropStreet(0), y -> y.night(30), y -> y.rain(100), y -> y.set(0, 4), y -> y.ifSpeed(3)};
        write(x, "1/1/1/1");
        for (Call call : calls) {
            holds("a call is not refused", call.on(x) >= 0);
            latests(x, want);
        }
    }

    private static void legOfTheEnd() {
        says("the number of the leg in which, or before which, it was broken off (that of all legs then, if .. through)");
        for (int legs = 0; legs <= 10; legs++) {
            SweeperRounds x = new SweeperRounds();
            x.addStreet(1, 10, 0);
            x.addStreet(1, 10, 0);
            for (int i = 0; i < legs; i++) {
                x.addLeg(i % 2, 0);
            }
            x.set(3, 6000);
            x.shift();
            due("latest(5) of " + legs, x.latest(5), legs);
            x.dropLeg(0);
            due("latest(5) after dropLeg", x.latest(5), legs);
            // 100 there, 6, then 50 + 6 for each leg more, and 100 back.
            for (int leg = 1; leg < legs; leg++) {
                SweeperRounds y = made(z -> {
                    z.addStreet(1, 10, 0);
                    z.addStreet(1, 10, 0);
                });
                for (int i = 0; i < legs; i++) {
                    y.addLeg(i % 2, 0);
                }
                y.set(3, 206 + 56 * leg - 7);
                shiftIs("before leg " + leg + " of " + legs, y, 0, 1, 206 + 56 * (leg - 1), 0, leg, leg);
                y.set(3, 206 + 56 * leg - 1);
                shiftIs("in leg " + leg + " of " + legs, y, 0, 2, 200 + 56 * leg, 0, leg, leg);
            }
        }
    }
}
