/** The bounds that the document names for streets and their cells: promises 1 and 6 to 11. */
public final class StreetBoundsTest extends Sentences {
    public static void main(String[] args) {
        newObject();
        atMostSixStreets();
        numberedInOrder();
        cells();
        distance();
        trees();
        sides();
        dirt();
        canBeParked();
        cellNumbers();
        addStreetAnswers();
        addStreetIsClean();
        dropStreetTakesLegs();
        dropStreetNumbers();
        dropStreetAnswers();
        layAnswers();
        parkAnswers();
        noSuchCell();
        cellProperties();
        takesNow();
        streetProperties();
        greatestDirt();
        legsInIt();
        end();
    }

    private static void streets(SweeperRounds x, int n) {
        for (int i = 0; i < n; i++) {
            due("addStreet(" + (i + 1) + ", " + 10 * i + ", " + i + ")", x.addStreet(i + 1, 10 * i, i), i);
        }
    }

    private static void newObject() {
        SweeperRounds x = says("Creates an object without streets and legs, with everything as initially");
        counts(x, 0, 0, 0, 2, 1000, 0, 300, 1, 2400, 200, 100, 85, 0, 0, 0, 0);
        accounts(x, 0, 0, 0, 0, 0, 0, 0);
        latests(x, NONE, NONE, NONE, NONE, NONE, NONE);
        due("street(0, 0)", x.street(0, 0), BAD);
        due("leg(0, 0)", x.leg(0, 0), BAD);
        x = says("the text buffer is empty, and there are no remembered states");
        due("undo()", x.undo(), STATE);
        due("load(0)", x.load(0), -10);
        due("clearText()", x.clearText(), 0);
    }

    private static void atMostSixStreets() {
        says("There are at most 6 streets");
        refused("addStreet with 6", x -> streets(x, 6), x -> x.addStreet(1, 1, 1), FULL);
        SweeperRounds x = made(y -> streets(y, 6));
        due("count(0)", x.count(0), 6);
        x.dropStreet(2);
        due("addStreet with 5", x.addStreet(1, 1, 1), 5);
        due("addStreet with 6", x.addStreet(1, 1, 1), FULL);
        x.undo();
        write(x, "1/1/1/1");
        due("load(5) with 5", x.load(5), 1);
        due("load(6) with 6", x.load(6), FULL);
        due("addStreet with 6", x.addStreet(1, 1, 1), FULL);
    }

    private static void numberedInOrder() {
        SweeperRounds x = says("numbered from 0 in the order in which they were added");
        streets(x, 6);
        for (int i = 0; i < 6; i++) {
            due("street(" + i + ", 0)", x.street(i, 0), i + 1);
            due("street(" + i + ", 1)", x.street(i, 1), 10 * i);
            due("street(" + i + ", 2)", x.street(i, 2), i);
        }
        range("street(., 0)", y -> streets(y, 6), (y, s) -> y.street(s, 0), 0, 5);
        range("street(., 0) of one", y -> streets(y, 1), (y, s) -> y.street(s, 0), 0, 0);
        refused("street(0, 0) of none", y -> { }, y -> y.street(0, 0), BAD);
    }

    private static void cells() {
        says("A street has n cells, 1 to 20");
        range("addStreet(., 0, 0)", x -> { }, (x, n) -> x.addStreet(n, 0, 0), 1, 20);
        for (int n = 1; n <= 20; n++) {
            SweeperRounds x = new SweeperRounds();
            x.addStreet(n, 0, 0);
            due("street(0, 0)", x.street(0, 0), n);
        }
    }

    private static void distance() {
        says("a distance, 0 to 60 (minutes of driving from the dump)");
        range("addStreet(1, ., 0)", x -> { }, (x, d) -> x.addStreet(1, d, 0), 0, 60);
        SweeperRounds x = made(y -> y.addStreet(1, 60, 0));
        due("street(0, 1)", x.street(0, 1), 60);
        x.addStreet(1, 0, 0);
        due("street(1, 1)", x.street(1, 1), 0);
    }

    private static void trees() {
        says("trees, 0 to 9");
        range("addStreet(1, 0, .)", x -> { }, (x, t) -> x.addStreet(1, 0, t), 0, 9);
        SweeperRounds x = made(y -> y.addStreet(1, 0, 9));
        due("street(0, 2)", x.street(0, 2), 9);
        x.addStreet(1, 0, 0);
        due("street(1, 2)", x.street(1, 2), 0);
    }

    private static void sides() {
        says("two sides, 0 and 1");
        Setup one = x -> streets(x, 1);
        range("lay(0, ., 0, 1)", one, (x, side) -> x.lay(0, side, 0, 1), 0, 1);
        range("park(0, ., 0, true)", one, (x, side) -> x.park(0, side, 0, true), 0, 1);
        range("cell(0, ., 0, 0)", one, (x, side) -> x.cell(0, side, 0, 0), 0, 1);
        range("addLeg(0, .)", one, (x, side) -> x.addLeg(0, side), 0, 1);
        SweeperRounds x = made(y -> y.addStreet(20, 0, 0));
        x.lay(0, 0, 19, 7);
        x.lay(0, 1, 0, 8);
        x.park(0, 1, 19, true);
        due("street(0, 3)", x.street(0, 3), 7);
        due("street(0, 4)", x.street(0, 4), 8);
        due("cell(0, 0, 19, 1)", x.cell(0, 0, 19, 1), 0);
    }

    private static void dirt() {
        SweeperRounds x = says("each cell has dirt, 0 to 99 (initially 0)");
        x.addStreet(20, 0, 0);
        x.addStreet(1, 0, 0);
        for (int i = 0; i < 40; i++) {
            due("cell(0, " + i / 20 + ", " + i % 20 + ", 0)", x.cell(0, i / 20, i % 20, 0), 0);
        }
        range("lay(0, 0, 0, .)", y -> y.addStreet(1, 0, 0), (y, dirt) -> y.lay(0, 0, 0, dirt), 0, 99);
        for (int dirt = 0; dirt <= 99; dirt++) {
            x.lay(0, 1, 19, dirt);
            due("cell(0, 1, 19, 0)", x.cell(0, 1, 19, 0), dirt);
        }
    }

    private static void canBeParked() {
        SweeperRounds x = says("and can be parked (initially not)");
        x.addStreet(20, 0, 0);
        for (int i = 0; i < 40; i++) {
            due("cell(0, " + i / 20 + ", " + i % 20 + ", 1)", x.cell(0, i / 20, i % 20, 1), 0);
        }
        for (int i = 0; i < 40; i++) {
            due("park to true", x.park(0, i / 20, i % 20, true), 0);
            due("street(0, 5)", x.street(0, 5), i + 1);
        }
        for (int i = 0; i < 40; i++) {
            due("park to false", x.park(0, i / 20, i % 20, false), 1);
            due("street(0, 5)", x.street(0, 5), 39 - i);
        }
    }

    private static void cellNumbers() {
        says("numbered from 0 in the direction in which water runs");
        int[] lengths = {1, 2, 19, 20};
        for (int n : lengths) {
            Setup some = x -> {
                x.addStreet(n, 0, 0);
                x.addStreet(20, 0, 0);
            };
            range("lay(0, 1, ., 1) of " + n, some, (x, c) -> x.lay(0, 1, c, 1), 0, n - 1);
            range("park(0, 0, ., true) of " + n, some, (x, c) -> x.park(0, 0, c, true), 0, n - 1);
            range("cell(0, 0, ., 0) of " + n, some, (x, c) -> x.cell(0, 0, c, 0), 0, n - 1);
            SweeperRounds x = made(some);
            x.lay(0, 0, n - 1, 9);
            due("rain(100) on the last cell of " + n, x.rain(100), 9);
        }
    }

    private static void addStreetAnswers() {
        says("Returns its number; BAD if an argument is out of range; FULL if there are 6 streets.");
        refused("addStreet(1, 1, 1) with 6", x -> streets(x, 6), x -> x.addStreet(1, 1, 1), FULL);
        range("addStreet(., 1, 1) with 5", x -> streets(x, 5), (x, n) -> x.addStreet(n, 1, 1), 1, 20);
        int[][] bad = {{0, 1, 1}, {21, 1, 1}, {1, -1, 1}, {1, 61, 1}, {1, 1, -1}, {1, 1, 10}, {LOW, LOW, LOW},
            {HIGH, HIGH, HIGH}};
        for (int[] one : bad) {
            String name = "addStreet(" + one[0] + ", " + one[1] + ", " + one[2] + ")";
            refused(name, x -> { }, x -> x.addStreet(one[0], one[1], one[2]), BAD);
            refused(name + " with 6", x -> streets(x, 6), x -> x.addStreet(one[0], one[1], one[2]), BAD);
        }
    }

    private static void addStreetIsClean() {
        SweeperRounds x = says("Adds a street without dirt and parked cells.");
        write(x, "9/9/" + times(20, "j") + "/" + times(20, "j"));
        for (int i = 0; i < 6; i++) {
            x.load(i);
        }
        for (int i = 0; i < 6; i++) {
            x.dropStreet(0);
        }
        for (int i = 0; i < 6; i++) {
            x.addStreet(20, 0, 0);
            due("street(" + i + ", 3)", x.street(i, 3), 0);
            due("street(" + i + ", 4)", x.street(i, 4), 0);
            due("street(" + i + ", 5)", x.street(i, 5), 0);
            due("street(" + i + ", 6)", x.street(i, 6), 0);
        }
        due("account(6)", x.account(6), 0);
    }

    /** Six streets, and ten legs in streets 0, 1, 2, 3, 4, 5, 0, 1, 2, 3. */
    private static void sixStreetsTenLegs(SweeperRounds x) {
        streets(x, 6);
        for (int i = 0; i < 10; i++) {
            due("addLeg(" + i % 6 + ", " + i % 2 + ")", x.addLeg(i % 6, i % 2), i);
        }
    }

    private static void dropStreetTakesLegs() {
        says("Removes a street, and all legs in it.");
        int[] left = {8, 8, 8, 8, 9, 9};
        for (int street = 0; street < 6; street++) {
            SweeperRounds x = made(StreetBoundsTest::sixStreetsTenLegs);
            due("dropStreet(" + street + ")", x.dropStreet(street), left[street]);
            due("count(0)", x.count(0), 5);
            due("count(1)", x.count(1), left[street]);
            due("street(5, 0)", x.street(5, 0), BAD);
            due("leg behind the last one", x.leg(left[street], 0), BAD);
        }
    }

    private static void dropStreetNumbers() {
        says("The numbers of the streets, and of the legs, behind them become smaller accordingly.");
        for (int gone = 0; gone < 6; gone++) {
            SweeperRounds x = made(StreetBoundsTest::sixStreetsTenLegs);
            x.dropStreet(gone);
            int leg = 0;
            for (int i = 0; i < 10; i++) {
                if (i % 6 != gone) {
                    due("leg(" + leg + ", 0)", x.leg(leg, 0), i % 6 - (i % 6 > gone ? 1 : 0));
                    due("leg(" + leg + ", 1)", x.leg(leg, 1), i % 2);
                    leg++;
                }
            }
            for (int i = 0; i < 5; i++) {
                due("street(" + i + ", 0)", x.street(i, 0), i + (i >= gone ? 2 : 1));
            }
        }
    }

    private static void dropStreetAnswers() {
        says("Returns how many legs are left; BAD if there is no such street.");
        range("dropStreet(.) of 6", StreetBoundsTest::sixStreetsTenLegs, SweeperRounds::dropStreet, 0, 5);
        range("dropStreet(.) of 1", x -> streets(x, 1), SweeperRounds::dropStreet, 0, 0);
        refused("dropStreet(0) of none", x -> { }, x -> x.dropStreet(0), BAD);
        SweeperRounds x = made(y -> streets(y, 2));
        for (int i = 0; i < 10; i++) {
            x.addLeg(1, 0);
        }
        due("dropStreet(0) without legs in it", x.dropStreet(0), 10);
        due("leg(9, 0)", x.leg(9, 0), 0);
        due("dropStreet(0) with all legs in it", x.dropStreet(0), 0);
        due("dropStreet(0) of none", x.dropStreet(0), BAD);
        due("count(1)", x.count(1), 0);
    }

    private static void layAnswers() {
        SweeperRounds x = says("Returns the dirt before");
        x.addStreet(20, 0, 0);
        due("lay 99 on 0", x.lay(0, 1, 19, 99), 0);
        due("lay 99 on 99", x.lay(0, 1, 19, 99), 99);
        due("lay 0 on 99", x.lay(0, 1, 19, 0), 99);
        due("lay 0 on 0", x.lay(0, 1, 19, 0), 0);
        due("count(14)", x.count(14), 5);
    }

    private static void parkAnswers() {
        SweeperRounds x = says("Returns 1 if it was parked before, else 0");
        x.addStreet(20, 0, 0);
        due("park false", x.park(0, 1, 19, false), 0);
        due("park true", x.park(0, 1, 19, true), 0);
        due("park true on a parked one", x.park(0, 1, 19, true), 1);
        due("park false on a parked one", x.park(0, 1, 19, false), 1);
        due("cell(0, 1, 19, 1)", x.cell(0, 1, 19, 1), 0);
        due("count(14)", x.count(14), 5);
    }

    private static void noSuchCell() {
        says("BAD if there is no such street, side or cell");
        int[][] none = {{2, 0, 0}, {-1, 0, 0}, {0, 2, 0}, {0, -1, 0}, {0, 0, 1}, {0, 0, -1}, {1, 1, 20}, {1, 0, 20},
            {LOW, LOW, LOW}, {HIGH, HIGH, HIGH}, {1, 0, HIGH}, {1, 0, LOW}, {1, 2, -20}, {1, -1, 20}};
        Setup two = x -> {
            x.addStreet(1, 0, 0);
            x.addStreet(20, 0, 0);
        };
        for (int[] at : none) {
            String name = "(" + at[0] + ", " + at[1] + ", " + at[2];
            refused("lay" + name + ", 50)", two, x -> x.lay(at[0], at[1], at[2], 50), BAD);
            refused("park" + name + ", true)", two, x -> x.park(at[0], at[1], at[2], true), BAD);
            for (int what = 0; what <= 2; what++) {
                int w = what;
                refused("cell" + name + ", " + w + ")", two, x -> x.cell(at[0], at[1], at[2], w), BAD);
            }
        }
        refused("lay(0, 0, 0, 0) without streets", x -> { }, x -> x.lay(0, 0, 0, 0), BAD);
        refused("park(0, 0, 0, false) without streets", x -> { }, x -> x.park(0, 0, 0, false), BAD);
        refused("cell(0, 0, 0, 0) without streets", x -> { }, x -> x.cell(0, 0, 0, 0), BAD);
    }

    private static void cellProperties() {
        SweeperRounds x = says("0 for its dirt, 1 for 1 if it is parked and 0 if not");
        range("cell(0, 0, 0, .)", y -> y.addStreet(1, 0, 0), (y, what) -> y.cell(0, 0, 0, what), 0, 2);
        x.addStreet(1, 0, 0);
        x.lay(0, 1, 0, 99);
        due("cell(0, 1, 0, 0)", x.cell(0, 1, 0, 0), 99);
        due("cell(0, 1, 0, 1)", x.cell(0, 1, 0, 1), 0);
        x.park(0, 1, 0, true);
        due("cell(0, 1, 0, 0) parked", x.cell(0, 1, 0, 0), 99);
        due("cell(0, 1, 0, 1) parked", x.cell(0, 1, 0, 1), 1);
        due("cell(0, 0, 0, 0)", x.cell(0, 0, 0, 0), 0);
        due("cell(0, 0, 0, 1)", x.cell(0, 0, 0, 1), 0);
    }

    private static void takesNow() {
        SweeperRounds x = says("how much dirt the machine would take of it now (0 if it is parked; as much as there is room");
        x.addStreet(1, 0, 0);
        x.addLeg(0, 0);
        // The grip is 85: 24 of dirt give 20, 25 give 21, 99 give 84.
        int[][] takes = {{0, 0}, {1, 0}, {2, 1}, {24, 20}, {25, 21}, {26, 22}, {99, 84}};
        for (int[] one : takes) {
            x.lay(0, 0, 0, one[0]);
            due("cell(0, 0, 0, 2) of " + one[0], x.cell(0, 0, 0, 2), one[1]);
        }
        x.set(1, 20);
        for (int[] one : takes) {
            x.lay(0, 0, 0, one[0]);
            due("cell(0, 0, 0, 2) of " + one[0] + " with room for 20", x.cell(0, 0, 0, 2), Math.min(20, one[1]));
        }
        x.park(0, 0, 0, true);
        due("cell(0, 0, 0, 2) parked", x.cell(0, 0, 0, 2), 0);
        x.park(0, 0, 0, false);
        x.lay(0, 0, 0, 10);
        due("shift()", x.shift(), 8);
        x.lay(0, 0, 0, 99);
        due("cell(0, 0, 0, 2) with room for 12", x.cell(0, 0, 0, 2), 12);
        x.set(1, 200);
        due("shift()", x.shift(), 83);
        x.lay(0, 0, 0, 99);
        due("count(4)", x.count(4), 91);
        x.set(1, 92);
        due("cell(0, 0, 0, 2) with room for 1", x.cell(0, 0, 0, 2), 1);
        x.set(1, 91);
        due("cell(0, 0, 0, 2) without room", x.cell(0, 0, 0, 2), 0);
    }

    private static void streetProperties() {
        SweeperRounds x = says("0 for n, 1 for its distance, 2 for its trees, 3 for the dirt of side 0, 4 for that of side 1");
        range("street(0, .)", y -> streets(y, 1), (y, what) -> y.street(0, what), 0, 7);
        range("street(5, .)", y -> streets(y, 6), (y, what) -> y.street(5, what), 0, 7);
        for (int what = -1; what <= 8; what++) {
            int w = what;
            refused("street(6, " + w + ") of 6", y -> streets(y, 6), y -> y.street(6, w), BAD);
            refused("street(-1, " + w + ") of 6", y -> streets(y, 6), y -> y.street(-1, w), BAD);
        }
        write(x, "60/9/" + times(20, "9") + "/" + times(20, "j"));
        x.load(0);
        x.addStreet(1, 0, 0);
        int[] full = {20, 60, 9, 1800, 1800, 20, 90, 0};
        int[] empty = {1, 0, 0, 0, 0, 0, 0, 0};
        for (int what = 0; what <= 7; what++) {
            due("street(0, " + what + ")", x.street(0, what), full[what]);
            due("street(1, " + what + ")", x.street(1, what), empty[what]);
        }
    }

    private static void greatestDirt() {
        SweeperRounds x = says("6 for the greatest dirt of a cell");
        x.addStreet(20, 0, 0);
        due("street(0, 6) of a clean one", x.street(0, 6), 0);
        x.lay(0, 1, 19, 1);
        due("street(0, 6)", x.street(0, 6), 1);
        x.lay(0, 0, 19, 98);
        due("street(0, 6)", x.street(0, 6), 98);
        x.lay(0, 1, 0, 99);
        x.park(0, 1, 0, true);
        due("street(0, 6) in a parked cell", x.street(0, 6), 99);
        x.lay(0, 1, 0, 0);
        x.lay(0, 0, 0, 97);
        due("street(0, 6)", x.street(0, 6), 98);
    }

    private static void legsInIt() {
        SweeperRounds x = says("7 for how many legs are in it");
        streets(x, 2);
        for (int i = 0; i <= 10; i++) {
            due("street(1, 7)", x.street(1, 7), i);
            due("street(0, 7)", x.street(0, 7), 0);
            due("addLeg(1, " + i % 2 + ")", x.addLeg(1, i % 2), i < 10 ? i : FULL);
        }
        due("dropStreet(0)", x.dropStreet(0), 10);
        due("street(0, 7)", x.street(0, 7), 10);
    }
}
