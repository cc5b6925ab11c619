import java.util.Arrays;

/** The bounds that the document names for what would be: promises 20 to 23. */
public final class ChoiceBoundsTest extends Sentences {
    public static void main(String[] args) {
        ifSpeedRange();
        ifSpeedIsWhatAShiftTakes();
        ifSpeedChangesNothing();
        mostLoad();
        fewestUnits();
        smallestSpeed();
        bestSpeedChangesNothing();
        orderOfSoManyLegs();
        tooManyLegs();
        placesInTheOrder();
        mostLoadOfAnOrder();
        firstOfSeveralOrders();
        lastOfAllOrders();
        bestOrderChangesNothing();
        nightsToRange();
        noNight();
        atLeastSomeDirt();
        oneToNinetyNineNights();
        never();
        someCell();
        nightsToIsWhatNightsDo();
        nightsToChangesNothing();
        end();
    }

    /** Streets of one cell on side 0 with some dirt, at the dump or far away, each with a leg. */
    private static SweeperRounds legsOver(int[] dirt, int[] distance) {
        SweeperRounds x = new SweeperRounds();
        for (int i = 0; i < dirt.length; i++) {
            x.addStreet(1, distance[i], 0);
            x.lay(i, 0, 0, dirt[i]);
            x.addLeg(i, 0);
        }
        return x;
    }

    private static void orderIs(String name, SweeperRounds x, int load, int... legs) {
        for (int i = 0; i < legs.length; i++) {
            due("bestOrder(" + i + ", true) " + name, x.bestOrder(i, true), load);
            due("bestOrder(" + i + ", false) " + name, x.bestOrder(i, false), legs[i]);
        }
        due("bestOrder(" + legs.length + ", true) " + name, x.bestOrder(legs.length, true), NONE);
        due("bestOrder(" + legs.length + ", false) " + name, x.bestOrder(legs.length, false), NONE);
    }

    private static void someRound(SweeperRounds x) {
        x.addStreet(3, 4, 2);
        x.addStreet(2, 8, 9);
        x.addLeg(0, 0);
        x.addLeg(1, 1);
        x.lay(0, 0, 1, 70);
        x.lay(1, 1, 0, 90);
        x.set(1, 150);
        x.shift();
        x.lay(1, 1, 1, 95);
        x.set(2, 3);
    }

    private static void ifSpeedRange() {
        says("`speed`: 1 to 4 .. Returns the load; BAD if speed is out of range.");
        range("ifSpeed(.) of a new object", x -> { }, SweeperRounds::ifSpeed, 1, 4);
        range("ifSpeed(.)", ChoiceBoundsTest::someRound, SweeperRounds::ifSpeed, 1, 4);
        for (int speed = 1; speed <= 4; speed++) {
            due("ifSpeed(" + speed + ") without legs", new SweeperRounds().ifSpeed(speed), 0);
        }
    }

    private static void ifSpeedIsWhatAShiftTakes() {
        says("Tells how much load would be taken in a shift with another speed.");
        int[] lengths = {100, 160, 200, 260, 300, 500, 2400};
        for (int length : lengths) {
            for (int speed = 1; speed <= 4; speed++) {
                SweeperRounds x = made(ChoiceBoundsTest::someRound);
                x.set(3, length);
                int load = x.ifSpeed(speed);
                x.set(0, speed);
                due("ifSpeed(" + speed + ") at that speed", x.ifSpeed(speed), load);
                due("shift() at speed " + speed, x.shift(), load);
            }
        }
    }

    private static void ifSpeedChangesNothing() {
        says("Tells how much load would be taken .. Nothing changes.");
        for (int speed = 1; speed <= 4; speed++) {
            int s = speed;
            SweeperRounds x = made(ChoiceBoundsTest::someRound);
            int load = x.ifSpeed(s);
            holds("a load that tells speed " + s + " from others", s == 4 || load > x.ifSpeed(s + 1));
            changesNothing("ifSpeed(" + s + ")", ChoiceBoundsTest::someRound, y -> y.ifSpeed(s), load);
        }
    }

    private static void mostLoad() {
        SweeperRounds x = says("Finds the speed with which the most load would be taken in a shift");
        x.addStreet(1, 0, 0);
        x.addLeg(0, 0);
        x.lay(0, 0, 0, 2);
        // 2, 1, 1, 1: one more counts for more than 12 units against 3.
        due("bestSpeed() over 2", x.bestSpeed(), 1);
        x.lay(0, 0, 0, 1);
        // 1, 0, 0, 0
        due("bestSpeed() over 1", x.bestSpeed(), 1);
        // Speed 1 has time for one cell, 2 for two, 3 for three, 4 for four; the dirt lies in the last one of them.
        for (int speed = 1; speed <= 4; speed++) {
            SweeperRounds y = new SweeperRounds();
            y.addStreet(20, 44, 0);
            y.addLeg(0, 0);
            y.set(3, 892);
            y.lay(0, 0, speed - 1, 99);
            due("bestSpeed() with dirt in cell " + (speed - 1), y.bestSpeed(), speed);
        }
    }

    private static void fewestUnits() {
        SweeperRounds x = says("of several the one with the fewest units");
        x.addStreet(1, 0, 0);
        x.addLeg(0, 0);
        due("bestSpeed() over nothing", x.bestSpeed(), 4);
        x.lay(0, 0, 0, 99);
        x.park(0, 0, 0, true);
        due("bestSpeed() over a parked cell", x.bestSpeed(), 4);
        x = new SweeperRounds();
        x.addStreet(2, 10, 0);
        x.addLeg(0, 0);
        x.set(3, 203);
        due("bestSpeed() with time for one cell at speed 4", x.bestSpeed(), 1);
        // Speed 2 sweeps one cell in 206 units, 3 one in 204, 4 two in 206; speed 1 only drives there and back in 200.
        x.set(3, 206);
        due("bestSpeed() with time for no cell at speed 1", x.bestSpeed(), 1);
        x.lay(0, 0, 0, 3);
        // 0, 2 in 206, 2 in 204, 1 in 206
        due("bestSpeed() with equal loads at speeds 2 and 3", x.bestSpeed(), 3);
    }

    private static void smallestSpeed() {
        SweeperRounds x = says("of several the smallest speed");
        due("bestSpeed() without legs", x.bestSpeed(), 1);
        x.addStreet(20, 44, 0);
        x.addLeg(0, 0);
        x.set(3, 879);
        due("bestSpeed() broken off before the first leg", x.bestSpeed(), 1);
        x.set(3, 880);
        due("bestSpeed() broken off before the first cell", x.bestSpeed(), 1);
        // In 12 units speed 1 sweeps one cell, 2 two, 3 three, 4 four.
        x.set(3, 892);
        due("bestSpeed() over clean cells", x.bestSpeed(), 1);
        x.lay(0, 0, 1, 3);
        // 0, 3 * 84 / 100 = 2, 3 * 69 / 100 = 2, 3 * 54 / 100 = 1
        due("bestSpeed() with equal loads and units at speeds 2 and 3", x.bestSpeed(), 2);
        x.lay(0, 0, 1, 0);
        x.lay(0, 0, 2, 2);
        // 0, 0, 2 * 69 / 100 = 1, 2 * 54 / 100 = 1
        due("bestSpeed() with equal loads and units at speeds 3 and 4", x.bestSpeed(), 3);
    }

    private static void bestSpeedChangesNothing() {
        says("Returns the speed.");
        for (int speed = 1; speed <= 4; speed++) {
            int s = speed;
            changesNothing("bestSpeed() at speed " + s, x -> {
                someRound(x);
                x.set(0, s);
            }, SweeperRounds::bestSpeed, 1);
        }
    }

    private static void orderOfSoManyLegs() {
        says("NONE if there are not so many legs (for both)");
        for (int n = 0; n <= 6; n++) {
            int legs = n;
            Setup state = x -> {
                x.addStreet(2, 1, 0);
                x.lay(0, 0, 1, 40);
                for (int i = 0; i < legs; i++) {
                    x.addLeg(0, 1);
                }
            };
            SweeperRounds x = made(state);
            for (int k = 0; k < n; k++) {
                due("bestOrder(" + k + ", false) of " + n, x.bestOrder(k, false), k);
                due("bestOrder(" + k + ", true) of " + n, x.bestOrder(k, true), 0);
            }
            int[] beyond = {n, n + 1, 6, 7, 10, 720, 65536, HIGH};
            for (int k : beyond) {
                if (k >= n) {
                    refused("bestOrder(" + k + ", false) of " + n, state, y -> y.bestOrder(k, false), NONE);
                    refused("bestOrder(" + k + ", true) of " + n, state, y -> y.bestOrder(k, true), NONE);
                }
            }
        }
    }

    private static void tooManyLegs() {
        says("BAD if k is negative; STATE if there are more than 6 legs");
        for (int n = 0; n <= 10; n++) {
            int legs = n;
            Setup state = x -> {
                x.addStreet(2, 1, 0);
                for (int i = 0; i < legs; i++) {
                    x.addLeg(0, i % 2);
                }
            };
            int[] negative = {-1, -2, -9, LOW};
            for (int k : negative) {
                refused("bestOrder(" + k + ", true) of " + n, state, x -> x.bestOrder(k, true), BAD);
                refused("bestOrder(" + k + ", false) of " + n, state, x -> x.bestOrder(k, false), BAD);
            }
            int[] places = {0, 5, 6, 7, 10, HIGH};
            for (int k : places) {
                if (n > 6) {
                    refused("bestOrder(" + k + ", true) of " + n, state, x -> x.bestOrder(k, true), STATE);
                    refused("bestOrder(" + k + ", false) of " + n, state, x -> x.bestOrder(k, false), STATE);
                }
            }
        }
    }

    private static void placesInTheOrder() {
        says("`load`: whether this load is asked for, or else the leg at this place");
        // 17 + 42, or 42 + 16 the other way: the brush is 997 behind a load of 17, and 999 - 4 behind one of 42.
        orderIs("of one leg", legsOver(new int[] {50}, new int[1]), 42, 0);
        orderIs("of two legs", legsOver(new int[] {50, 20}, new int[2]), 17 + 42, 1, 0);
        orderIs("of two legs in order", legsOver(new int[] {20, 50}, new int[2]), 17 + 42, 0, 1);
        SweeperRounds x = legsOver(new int[] {0, 50, 20}, new int[3]);
        x.dropLeg(0);
        orderIs("by their present numbers", x, 17 + 42, 1, 0);
    }

    private static void mostLoadOfAnOrder() {
        says("Finds the order of the legs in which the most load would be taken in a shift");
        // There is time for one street at distance 40, or for all at the dump.
        SweeperRounds x = legsOver(new int[] {99, 90, 10, 10}, new int[] {0, 40, 0, 0});
        x.set(3, 806);
        orderIs("with a far leg alone", x, 84 + 8 + 8, 0, 2, 3, 1);
        x.lay(0, 0, 0, 0);
        x.lay(2, 0, 0, 0);
        orderIs("with the far leg first", x, 76, 1, 0, 2, 3);
        x.lay(0, 0, 0, 99);
        // 84 against 76: the far leg comes last, though then there is no time for it.
        orderIs("with 84 at the dump", x, 84 + 8, 0, 2, 3, 1);
        x.lay(3, 0, 0, 0);
        x.lay(0, 0, 0, 90);
        // 76 each; the first one by their numbers.
        orderIs("with 76 at both", x, 76, 0, 1, 2, 3);
    }

    private static void firstOfSeveralOrders() {
        says("of several the lexicographically first one by their present numbers");
        for (int n = 1; n <= 6; n++) {
            int[] order = new int[n];
            for (int i = 0; i < n; i++) {
                order[i] = i;
            }
            orderIs("of clean legs", legsOver(new int[n], new int[n]), 0, order);
            int[] dirt = new int[n];
            Arrays.fill(dirt, 1);
            orderIs("of like legs", legsOver(dirt, new int[n]), 0, order);
        }
        // Time for the first one or for two others; dirt in the last one alone, which is taken after any one near.
        SweeperRounds x = legsOver(new int[] {0, 0, 0, 50}, new int[] {40, 0, 0, 0});
        x.set(3, 806);
        orderIs("with dirt in the last leg", x, 42, 1, 2, 3, 0);
        x = legsOver(new int[] {0, 0, 50, 0}, new int[] {40, 0, 0, 0});
        x.set(3, 806);
        orderIs("with dirt in leg 2", x, 42, 1, 2, 0, 3);
    }

    private static void lastOfAllOrders() {
        says("`k`: the place in the order, from 0");
        // The only best order is the last one of all that there are: 51 of 60 first, and so on.
        int[] dirt = {0, 80, 50, 30, 10, 60};
        SweeperRounds x = legsOver(dirt, new int[] {0, 0, 0, 0, 10, 10});
        x.set(1, 60);
        x.set(3, 760);
        orderIs("of six legs", x, 51 + 8 + 1 + 24 + 36 + 11 + 49 + 25, 5, 4, 3, 2, 1, 0);
    }

    private static void bestOrderChangesNothing() {
        says("Returns the load, or the present number of the leg");
        Setup state = x -> {
            someRound(x);
            x.addLeg(1, 0);
            x.addLeg(0, 1);
            x.shift();
            x.lay(0, 0, 0, 88);
        };
        SweeperRounds x = made(state);
        int load = x.bestOrder(0, true);
        for (int k = 0; k < 4; k++) {
            int place = k;
            int leg = x.bestOrder(k, false);
            changesNothing("bestOrder(" + k + ", true)", state, y -> y.bestOrder(place, true), load);
            changesNothing("bestOrder(" + k + ", false)", state, y -> y.bestOrder(place, false), leg);
        }
    }

    private static SweeperRounds trees(int trees, int season, int dirt) {
        SweeperRounds x = new SweeperRounds();
        x.addStreet(2, 0, trees);
        x.lay(0, 1, 1, dirt);
        x.set(5, season);
        return x;
    }

    private static void nightsToRange() {
        says("`dirt`: 1 to 99");
        range("nightsTo(.)", x -> x.addStreet(1, 0, 9), SweeperRounds::nightsTo, 1, 99);
        int[] beyond = {0, -1, 100, 101, LOW, HIGH};
        for (int dirt : beyond) {
            refused("nightsTo(" + dirt + ") without streets", x -> { }, x -> x.nightsTo(dirt), BAD);
        }
        refused("nightsTo(1) without streets", x -> { }, x -> x.nightsTo(1), NONE);
        refused("nightsTo(99) without streets", x -> { }, x -> x.nightsTo(99), NONE);
    }

    private static void noNight() {
        says("Returns the smallest number of nights, 0 to 100");
        due("nightsTo(1) with 1", trees(0, 100, 1).nightsTo(1), 0);
        due("nightsTo(99) with 99", trees(0, 0, 99).nightsTo(99), 0);
        due("nightsTo(98) with 99", trees(9, 400, 99).nightsTo(98), 0);
        due("nightsTo(50) with 50", trees(9, 400, 50).nightsTo(50), 0);
    }

    private static void atLeastSomeDirt() {
        says("until some cell has at least some dirt");
        int[][] nights = {{9, 100, 0, 9, 1}, {9, 100, 0, 10, 2}, {9, 100, 0, 8, 1}, {9, 100, 40, 49, 1}, {9, 100, 40, 50, 2},
            {9, 100, 40, 41, 1}, {9, 400, 0, 36, 1}, {9, 400, 0, 37, 2}, {9, 400, 0, 72, 2}, {9, 400, 0, 73, 3},
            {9, 400, 0, 99, 3}, {9, 400, 98, 99, 1}, {5, 30, 0, 1, 1}, {5, 30, 0, 2, 2}};
        for (int[] one : nights) {
            SweeperRounds x = trees(one[0], one[1], one[2]);
            due("nightsTo(" + one[3] + ") from " + one[2], x.nightsTo(one[3]), one[4]);
        }
    }

    private static void oneToNinetyNineNights() {
        says("Returns the smallest number of nights, 0 to 100; NONE if it would be more");
        for (int dirt = 0; dirt <= 98; dirt++) {
            // One leaf a night; no dirt can need a hundred nights.
            due("nightsTo(99) from " + dirt, trees(1, 100, dirt).nightsTo(99), 99 - dirt);
            due("nightsTo(" + (dirt + 1) + ") from 0", trees(9, 12, 0).nightsTo(dirt + 1), dirt + 1);
        }
    }

    private static void never() {
        says("NONE if it would be more, or never");
        int[][] none = {{0, 400}, {9, 0}, {1, 99}, {9, 11}, {5, 19}};
        for (int[] one : none) {
            due("nightsTo(51) of trees " + one[0] + ", season " + one[1], trees(one[0], one[1], 50).nightsTo(51), NONE);
            due("nightsTo(50) of trees " + one[0] + ", season " + one[1], trees(one[0], one[1], 50).nightsTo(50), 0);
        }
    }

    private static void someCell() {
        SweeperRounds x = says("Tells how many nights would pass until some cell has at least some dirt.");
        x.addStreet(1, 0, 9);
        x.addStreet(20, 0, 1);
        x.addStreet(1, 0, 0);
        due("nightsTo(90)", x.nightsTo(90), 10);
        x.lay(1, 1, 19, 81);
        x.park(1, 1, 19, true);
        due("nightsTo(90) in a parked cell", x.nightsTo(90), 9);
        x.lay(1, 0, 0, 82);
        due("nightsTo(90) in the first cell", x.nightsTo(90), 8);
        x.lay(2, 0, 0, 89);
        due("nightsTo(90) beside one where nothing falls", x.nightsTo(90), 8);
        due("nightsTo(89)", x.nightsTo(89), 0);
        x.dropStreet(2);
        due("nightsTo(89) without the street of 89", x.nightsTo(89), 7);
        x.undo();
        for (int i = 3; i < 6; i++) {
            x.addStreet(20, 60, i == 5 ? 9 : 0);
        }
        x.lay(5, 1, 19, 85);
        due("nightsTo(90) in the last of six streets", x.nightsTo(90), 1);
    }

    private static void nightsToIsWhatNightsDo() {
        says("how many nights would pass");
        int[][] falls = {{1, 100}, {2, 100}, {9, 100}, {9, 12}, {7, 400}, {9, 400}};
        for (int[] one : falls) {
            for (int dirt = 1; dirt <= 99; dirt += 7) {
                SweeperRounds x = trees(one[0], one[1], 20);
                int nights = x.nightsTo(dirt);
                for (int i = 0; i < nights; i++) {
                    holds("before night " + i + " it is less", x.street(0, 6) < dirt);
                    x.night(1);
                }
                holds("after " + nights + " nights it is at least " + dirt, x.street(0, 6) >= dirt);
            }
        }
    }

    private static void nightsToChangesNothing() {
        says("Tells how many nights would pass until some cell .. Nothing changes.");
        changesNothing("nightsTo(99)", ChoiceBoundsTest::someRound, x -> x.nightsTo(99), 1);
        changesNothing("nightsTo(1)", ChoiceBoundsTest::someRound, x -> x.nightsTo(1), 0);
    }
}
