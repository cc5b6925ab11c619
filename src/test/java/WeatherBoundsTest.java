/** The bounds that the document names for nights, rain and the accounts: promises 17, 18 and 24. */
public final class WeatherBoundsTest extends Sentences {
    public static void main(String[] args) {
        fallsOnEachCell();
        fallsByTreesAndSeason();
        blownAway();
        nightAnswers();
        manyNights();
        rainRange();
        runsToTheNextCell();
        fromLastToFirst();
        runsOnIntoTheDrain();
        parkedCellsKeepTheirs();
        drainOfAParkedCell();
        streetOfOneCell();
        onEachSideOfEachStreet();
        rainAnswers();
        laidAndTakenAwayByLay();
        laidAndTakenAwayByText();
        takenAwayWithAStreet();
        fellWithWhatWasBlownAway();
        washed();
        dumped();
        accountAnswers();
        whatLiesIsWhatIsLeft();
        greatestSums();
        end();
    }

    private static void oneStreet(SweeperRounds x, int cells, int trees) {
        due("addStreet", x.addStreet(cells, 0, trees), x.count(0) - 1);
    }

    /** One street whose side 0 has some dirt from cell 0 on. */
    private static SweeperRounds withDirt(int... dirt) {
        SweeperRounds x = new SweeperRounds();
        x.addStreet(dirt.length, 0, 0);
        for (int i = 0; i < dirt.length; i++) {
            x.lay(0, 0, i, dirt[i]);
        }
        return x;
    }

    private static void fallsOnEachCell() {
        SweeperRounds x = says("In a night, each cell of each side gets trees * season / 100 more dirt");
        oneStreet(x, 20, 3);
        oneStreet(x, 1, 0);
        oneStreet(x, 1, 9);
        x.park(0, 1, 19, true);
        due("night(1)", x.night(1), 40 * 3 + 2 * 9);
        for (int i = 0; i < 40; i++) {
            due("cell(0, " + i / 20 + ", " + i % 20 + ", 0)", x.cell(0, i / 20, i % 20, 0), 3);
        }
        due("street(1, 3)", x.street(1, 3), 0);
        dirts(x, 2, 0, 9);
        dirts(x, 2, 1, 9);
    }

    private static void fallsByTreesAndSeason() {
        says("where the season is 0 to 400 (initially 100)");
        // The trees, the season, and what falls on a cell in a night.
        int[][] falls = {{0, 400, 0}, {1, 0, 0}, {9, 0, 0}, {1, 99, 0}, {1, 100, 1}, {1, 101, 1}, {1, 199, 1}, {1, 200, 2},
            {1, 400, 4}, {9, 11, 0}, {9, 12, 1}, {9, 22, 1}, {9, 23, 2}, {9, 399, 35}, {9, 400, 36}, {5, 19, 0}, {5, 20, 1}};
        for (int[] one : falls) {
            SweeperRounds x = new SweeperRounds();
            oneStreet(x, 1, one[0]);
            due("set(5, " + one[1] + ")", x.set(5, one[1]), 100);
            String name = " of trees " + one[0] + ", season " + one[1];
            due("night(1)" + name, x.night(1), 2 * one[2]);
            // What is cut off by the quotient does not add up over the nights.
            due("night(2)" + name, x.night(2), 2 * Math.min(99, 3 * one[2]));
            due("account(1)" + name, x.account(1), 6 * one[2]);
        }
    }

    private static void blownAway() {
        says("what would be more than 99 is blown away");
        // The dirt before, and what is blown away of 9 that fall.
        int[][] blown = {{0, 0}, {89, 0}, {90, 0}, {91, 1}, {98, 8}, {99, 9}};
        for (int[] one : blown) {
            SweeperRounds x = new SweeperRounds();
            oneStreet(x, 1, 9);
            x.lay(0, 0, 0, one[0]);
            x.lay(0, 1, 0, 50);
            x.night(1);
            dirts(x, 0, 0, one[0] + 9 - one[1]);
            due("account(3) over " + one[0], x.account(3), one[1]);
            due("account(1) over " + one[0], x.account(1), 18);
        }
    }

    private static void nightAnswers() {
        says("Returns the dirt on all streets then; BAD if nights is out of range.");
        range("night(.) without streets", x -> { }, SweeperRounds::night, 1, 30);
        range("night(.)", x -> oneStreet(x, 20, 9), SweeperRounds::night, 1, 30);
        SweeperRounds x = new SweeperRounds();
        due("night(30) without streets", x.night(30), 0);
        due("count(12)", x.count(12), 30);
        x.set(5, 400);
        for (int i = 0; i < 6; i++) {
            x.addStreet(20, 0, 9);
        }
        due("night(1) on all streets", x.night(1), 240 * 36);
        due("night(30) on all streets", x.night(30), 240 * 99);
        due("night(30) on full streets", x.night(30), 240 * 99);
        due("count(12)", x.count(12), 91);
    }

    private static void manyNights() {
        SweeperRounds x = says("Lets nights pass.");
        oneStreet(x, 1, 3);
        SweeperRounds y = new SweeperRounds();
        oneStreet(y, 1, 3);
        x.lay(0, 1, 0, 20);
        y.lay(0, 1, 0, 20);
        due("night(30)", x.night(30), 90 + 99);
        for (int i = 1; i <= 30; i++) {
            due("night(1), number " + i, y.night(1), 3 * i + Math.min(99, 20 + 3 * i));
        }
        for (int what = 0; what <= 6; what++) {
            due("account(" + what + ")", y.account(what), x.account(what));
        }
        due("account(3)", x.account(3), 20 + 90 - 99);
        due("count(12)", y.count(12), x.count(12));
    }

    private static void rainRange() {
        says("When it rains with a strength of 1 to 100");
        range("rain(.) without streets", x -> { }, SweeperRounds::rain, 1, 100);
        range("rain(.)", x -> {
            oneStreet(x, 2, 0);
            x.lay(0, 0, 0, 99);
        }, SweeperRounds::rain, 1, 100);
        // dirt * strength / 100 of the last cell
        int[][] runs = {{99, 1, 0}, {99, 2, 1}, {50, 1, 0}, {50, 2, 1}, {50, 3, 1}, {50, 4, 2}, {1, 99, 0}, {1, 100, 1},
            {99, 99, 98}, {99, 100, 99}, {0, 100, 0}};
        for (int[] one : runs) {
            SweeperRounds x = withDirt(0, one[0]);
            due("rain(" + one[1] + ") on " + one[0], x.rain(one[1]), one[2]);
            dirts(x, 0, 0, 0, one[0] - one[2]);
        }
    }

    private static void runsToTheNextCell() {
        says("from cell n - 1 into the drain, where it is washed away, from the others to the next cell, which gets it");
        for (int n = 2; n <= 20; n++) {
            for (int i = 0; i < n; i += n - 2 == 0 ? 1 : n / 2) {
                SweeperRounds x = withDirt(new int[n]);
                x.lay(0, 0, i, 80);
                boolean last = i == n - 1;
                due("rain(50) on cell " + i + " of " + n, x.rain(50), last ? 40 : 0);
                due("cell(0, 0, " + i + ", 0)", x.cell(0, 0, i, 0), 40);
                due("street(0, 3)", x.street(0, 3), last ? 40 : 80);
                if (!last) {
                    due("the cell behind it", x.cell(0, 0, i + 1, 0), 40);
                }
            }
        }
    }

    private static void fromLastToFirst() {
        says("from cell n - 1 to cell 0, dirt * strength / 100 of the cell runs down");
        // What a cell gets does not run on in the same rain.
        SweeperRounds x = withDirt(80, 40, 20);
        due("rain(50)", x.rain(50), 10);
        dirts(x, 0, 0, 40, 60, 30);
        due("rain(100)", x.rain(100), 30);
        dirts(x, 0, 0, 0, 40, 60);
        due("rain(100)", x.rain(100), 60);
        due("rain(100)", x.rain(100), 40);
        due("rain(100)", x.rain(100), 0);
    }

    private static void runsOnIntoTheDrain() {
        says("(what would be more than 99 there runs on at once into the drain, and is washed away)");
        // The parked cell keeps its dirt; 40 run down to it.
        int[][] onto = {{58, 0}, {59, 0}, {60, 1}, {61, 2}, {98, 39}, {99, 40}};
        for (int[] one : onto) {
            SweeperRounds x = withDirt(40, one[0], 10);
            x.park(0, 0, 1, true);
            x.park(0, 0, 2, true);
            due("rain(100) onto " + one[0], x.rain(100), one[1]);
            dirts(x, 0, 0, 0, one[0] + 40 - one[1], 10);
            due("account(4)", x.account(4), one[1]);
        }
    }

    private static void parkedCellsKeepTheirs() {
        says("cells that are parked lose nothing, but get what runs down to them");
        SweeperRounds x = withDirt(50, 60, 70);
        for (int i = 0; i < 3; i++) {
            x.park(0, 0, i, true);
        }
        due("rain(100), all parked", x.rain(100), 0);
        dirts(x, 0, 0, 50, 60, 70);
        x.park(0, 0, 0, false);
        due("rain(10), the first one free", x.rain(10), 0);
        dirts(x, 0, 0, 45, 65, 70);
        x.park(0, 0, 1, false);
        due("rain(10), two free", x.rain(10), 0);
        dirts(x, 0, 0, 41, 63, 76);
        x.park(0, 0, 2, false);
        due("rain(10), all free", x.rain(10), 7);
        dirts(x, 0, 0, 37, 61, 75);
    }

    private static void drainOfAParkedCell() {
        says("cells that are parked lose nothing, but get what runs down to them .. runs on at once into the drain");
        SweeperRounds x = withDirt(99, 99);
        x.park(0, 0, 1, true);
        due("rain(100) onto a full parked last cell", x.rain(100), 99);
        dirts(x, 0, 0, 0, 99);
        x = withDirt(99, 0);
        x.park(0, 0, 1, true);
        due("rain(100) onto an empty parked last cell", x.rain(100), 0);
        dirts(x, 0, 0, 0, 99);
    }

    private static void streetOfOneCell() {
        says("from cell n - 1 into the drain, where it is washed away");
        // Here cell n - 1 is cell 0.
        SweeperRounds x = withDirt(99);
        x.lay(0, 1, 0, 51);
        due("rain(50)", x.rain(50), 49 + 25);
        dirts(x, 0, 0, 50);
        dirts(x, 0, 1, 26);
        x.park(0, 0, 0, true);
        due("rain(100)", x.rain(100), 26);
    }

    private static void onEachSideOfEachStreet() {
        says("then on each side of each street");
        SweeperRounds x = new SweeperRounds();
        for (int i = 0; i < 6; i++) {
            x.addStreet(20, 0, 0);
        }
        int due = 0;
        for (int i = 0; i < 12; i++) {
            x.lay(i / 2, i % 2, 19, 10 + i);
            x.lay(i / 2, i % 2, 0, 20 + i);
            due += 10 + i;
        }
        due("rain(100)", x.rain(100), due);
        for (int i = 0; i < 12; i++) {
            due("cell(" + i / 2 + ", " + i % 2 + ", 19, 0)", x.cell(i / 2, i % 2, 19, 0), 0);
            due("cell(" + i / 2 + ", " + i % 2 + ", 0, 0)", x.cell(i / 2, i % 2, 0, 0), 0);
            due("cell(" + i / 2 + ", " + i % 2 + ", 1, 0)", x.cell(i / 2, i % 2, 1, 0), 20 + i);
        }
    }

    private static void rainAnswers() {
        SweeperRounds x = says("Returns how much dirt was washed away; BAD if strength is out of range.");
        due("rain(100) without streets", x.rain(100), 0);
        due("count(14)", x.count(14), 1);
        write(x, "0/0/" + times(20, "9") + "/" + times(20, "9"));
        for (int i = 0; i < 6; i++) {
            x.load(i);
        }
        due("rain(100) on full streets", x.rain(100), 12 * 90);
        due("account(4)", x.account(4), 1080);
        due("rain(1)", x.rain(1), 0);
        due("rain(100)", x.rain(100), 12 * 90);
        due("account(4)", x.account(4), 2160);
    }

    private static void laidAndTakenAwayByLay() {
        SweeperRounds x = says("by lay(), how much more there is than before .. how much less there is than before");
        oneStreet(x, 1, 0);
        int[][] steps = {{0, 0, 0}, {99, 99, 0}, {99, 99, 0}, {98, 99, 1}, {99, 100, 1}, {0, 100, 100}, {1, 101, 100},
            {0, 101, 101}};
        for (int[] one : steps) {
            x.lay(0, 1, 0, one[0]);
            accounts(x, one[1], 0, one[2], 0, 0, 0, one[0]);
        }
    }

    private static void laidAndTakenAwayByText() {
        SweeperRounds x = says("of the dirt that was laid (all that a text tells; .. that was taken away (all that lies on a");
        write(x, "0/0/99/jj");
        x.load(0);
        accounts(x, 360, 0, 0, 0, 0, 0, 360);
        x.load(0);
        accounts(x, 720, 0, 360, 0, 0, 0, 360);
        write(x, "0/0/0/a");
        x.load(0);
        accounts(x, 720, 0, 720, 0, 0, 0, 0);
        x.load(1);
        accounts(x, 720, 0, 720, 0, 0, 0, 0);
        write(x, "0/0/9/9/");
        x.load(0);
        accounts(x, 720, 0, 720, 0, 0, 0, 0);
    }

    private static void takenAwayWithAStreet() {
        SweeperRounds x = says("all that lies on a street that is removed or replaced by a text");
        x.addStreet(1, 0, 0);
        x.addStreet(20, 0, 9);
        x.dropStreet(0);
        accounts(x, 0, 0, 0, 0, 0, 0, 0);
        x.set(5, 400);
        x.night(3);
        accounts(x, 0, 4320, 0, 360, 0, 0, 3960);
        x.dropStreet(0);
        accounts(x, 0, 4320, 3960, 360, 0, 0, 0);
    }

    private static void fellWithWhatWasBlownAway() {
        SweeperRounds x = says("that fell at night (with what was blown away)");
        oneStreet(x, 1, 1);
        x.lay(0, 0, 0, 98);
        x.lay(0, 1, 0, 99);
        int[][] sums = {{2, 1}, {4, 3}, {6, 5}};
        for (int[] one : sums) {
            x.night(1);
            accounts(x, 197, one[0], 0, one[1], 0, 0, 198);
        }
    }

    private static void washed() {
        SweeperRounds x = says("that was washed away");
        oneStreet(x, 2, 0);
        x.lay(0, 0, 1, 50);
        x.lay(0, 1, 0, 50);
        x.rain(100);
        accounts(x, 100, 0, 0, 0, 50, 0, 50);
        x.rain(100);
        accounts(x, 100, 0, 0, 0, 100, 0, 0);
    }

    private static void dumped() {
        SweeperRounds x = says("and that was dumped. What lies on streets and in the hopper is");
        oneStreet(x, 1, 0);
        x.addLeg(0, 0);
        x.set(0, 1);
        x.lay(0, 0, 0, 99);
        x.shift();
        accounts(x, 99, 0, 0, 0, 0, 0, 0);
        due("count(4)", x.count(4), 99);
        x.set(1, 198);
        x.shift();
        accounts(x, 99, 0, 0, 0, 0, 99, 0);
        due("count(4)", x.count(4), 0);
    }

    private static void accountAnswers() {
        says("Returns the sum; BAD if what is out of range.");
        range("account(.)", x -> { }, SweeperRounds::account, 0, 6);
        range("account(.) of streets", x -> oneStreet(x, 20, 9), SweeperRounds::account, 0, 6);
    }

    private static void balance(String name, SweeperRounds x) {
        int left = x.account(0) + x.account(1);
        for (int what = 2; what <= 5; what++) {
            left -= x.account(what);
        }
        due("what is left " + name, x.account(6) + x.count(4), left);
    }

    private static void whatLiesIsWhatIsLeft() {
        SweeperRounds x = says("What lies on streets and in the hopper is what was laid and fell minus the other sums.");
        balance("at first", x);
        write(x, "9/9/" + times(10, "9") + times(10, "j") + "/" + times(20, "8"));
        Call[] calls = {y -> y.load(0), y -> y.load(1), y -> y.lay(0, 0, 0, 1), y -> y.lay(0, 1, 0, 99), y -> y.addLeg(0, 0),
            y -> y.addLeg(1, 1), y -> y.shift(), y -> y.night(2), y -> y.rain(70), y -> y.shift(), y -> y.set(1, 20),
            y -> y.rain(100), y -> y.night(30), y -> y.shift(), y -> y.load(1), y -> y.dropStreet(0), y -> y.undo(),
            y -> y.set(1, 2000), y -> y.shift(), y -> y.undo(), y -> y.shift(), y -> y.dropStreet(1)};
        for (int i = 0; i < calls.length; i++) {
            calls[i].on(x);
            balance("after call " + i, x);
        }
    }

    private static void greatestSums() {
        SweeperRounds x = says("An object is used for at most 512 calls after it has been made");
        x.set(5, 400);
        for (int i = 0; i < 6; i++) {
            x.addStreet(20, 0, 9);
        }
        for (int i = 1; i <= 500; i++) {
            due("night(30), number " + i, x.night(30), 240 * 99);
        }
        due("account(1)", x.account(1), 500 * 30 * 240 * 36);
        due("account(3)", x.account(3), 500 * 30 * 240 * 36 - 240 * 99);
        due("count(12)", x.count(12), 15000);
        due("undo()", x.undo(), 7);
        due("count(12) after undo", x.count(12), 14970);
        due("account(1) after undo", x.account(1), 499 * 30 * 240 * 36);
    }
}
