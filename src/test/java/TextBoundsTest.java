/** The bounds that the document names for the text buffer and for reading it: promises 2 to 5. */
public final class TextBoundsTest extends Sentences {
    private static final String DIGITS = "0123456789";
    private static final String CELLS = DIGITS + "abcdefghij";
    /** A right text: two cells on each side. */
    private static final String RIGHT = "12/3/4a/b5";

    public static void main(String[] args) {
        atMostEightyCharacters();
        typeAnswers();
        clearEmpties();
        clearAnswers();
        textStays();
        whichStreet();
        legsStay();
        loadAnswersCells();
        badBeforeFullBeforeFault();
        faultChangesNothing();
        distanceDigits();
        treesDigit();
        oneToTwentyCells();
        digitsAndLetters();
        sameNumberOfCells();
        noSpaces();
        signsAtEachPlace();
        aDigitTooMany();
        aTwentyFirstCell();
        noCellOnTheLeftForIt();
        endOfTheText();
        rightSideTooShort();
        distanceTooGreat();
        distanceFoundLater();
        firstFaultCounts();
        faultOfAFullText();
        latestLoadThatRead();
        noFault();
        end();
    }

    private static void reads(String text, int cells) {
        SweeperRounds x = new SweeperRounds();
        write(x, text);
        due("load(0) of " + text, x.load(0), cells);
        due("faultKind() of " + text, x.faultKind(), 0);
        due("count(0) after " + text, x.count(0), 1);
    }

    private static void fails(String text, int index, int kind) {
        SweeperRounds x = new SweeperRounds();
        write(x, text);
        due("load(0) of '" + text + "'", x.load(0), -10 - index);
        due("faultKind() of '" + text + "'", x.faultKind(), kind);
        due("count(0) after '" + text + "'", x.count(0), 0);
    }

    private static void fill(SweeperRounds x, int characters) {
        for (int i = 0; i < characters; i++) {
            x.type(48);
        }
    }

    private static void sixStreets(SweeperRounds x) {
        for (int i = 0; i < 6; i++) {
            x.addStreet(1 + i, 10 * i, i);
        }
    }

    private static void atMostEightyCharacters() {
        SweeperRounds x = says("The text buffer has at most 80 characters with codes from 32 to 126.");
        for (int i = 1; i <= 80; i++) {
            due("type at " + (i - 1), x.type(i % 2 == 0 ? 32 : 126), i);
        }
        due("type(32) at 80", x.type(32), FULL);
        due("type(126) at 80", x.type(126), FULL);
        due("count(13)", x.count(13), 80);
        range("type(.)", y -> { }, SweeperRounds::type, 32, 126);
        range("type(.) as the last one", y -> fill(y, 79), SweeperRounds::type, 32, 126);
    }

    private static void typeAnswers() {
        says("Returns how many characters the text buffer has then; BAD if code is out of range; FULL if it has 80.");
        refused("type(48) at 80", x -> fill(x, 80), x -> x.type(48), FULL);
        refused("type(31) at 80", x -> fill(x, 80), x -> x.type(31), BAD);
        refused("type(127) at 80", x -> fill(x, 80), x -> x.type(127), BAD);
        refused("type(LOW) at 80", x -> fill(x, 80), x -> x.type(LOW), BAD);
        refused("type(48 + 65536)", x -> write(x, "1/2/3/"), x -> x.type(48 + 65536), BAD);
        SweeperRounds x = says("Appends a character to the text buffer.");
        write(x, "1/2/3/4");
        due("load(0)", x.load(0), 1);
        due("type(53)", x.type(53), 8);
        due("load(0) with a cell more", x.load(0), -17);
    }

    private static void clearEmpties() {
        SweeperRounds x = says("Empties the text buffer.");
        write(x, RIGHT);
        x.clearText();
        due("count(13)", x.count(13), 0);
        due("load(0) of nothing", x.load(0), -10);
        fill(x, 80);
        x.clearText();
        for (int i = 1; i <= 80; i++) {
            due("type after a full buffer", x.type(48), i);
        }
        due("type(48) at 80 again", x.type(48), FULL);
    }

    private static void clearAnswers() {
        SweeperRounds x = says("Returns how many characters it had.");
        due("clearText() of an empty one", x.clearText(), 0);
        int[] lengths = {1, 2, 79, 80, 81};
        for (int length : lengths) {
            fill(x, length);
            due("clearText() after " + length, x.clearText(), Math.min(80, length));
            due("clearText() after that", x.clearText(), 0);
        }
        due("count(14)", x.count(14), 0);
    }

    private static void textStays() {
        SweeperRounds x = says("Reads the text buffer, which stays, as a street: a new one, or in place of one");
        write(x, RIGHT);
        due("load(0), a new one", x.load(0), 2);
        due("load(1), a new one", x.load(1), 2);
        due("load(0), in place", x.load(0), 2);
        due("count(0)", x.count(0), 2);
        due("count(13)", x.count(13), RIGHT.length());
        write(x, "12/3/4a/b");
        due("load(0) with a fault", x.load(0), -19);
        due("count(13) after a fault", x.count(13), 9);
        due("load(2) with a fault", x.load(2), -19);
        due("clearText()", x.clearText(), 9);
    }

    private static void whichStreet() {
        says("`street`: the street, or the number of streets for a new one");
        for (int streets = 0; streets <= 5; streets++) {
            int n = streets;
            Setup some = x -> {
                for (int i = 0; i < n; i++) {
                    x.addStreet(1, i, 0);
                }
                write(x, RIGHT);
            };
            range("load(.) with " + n + " streets", some, SweeperRounds::load, 0, n);
            SweeperRounds x = made(some);
            x.load(n);
            due("count(0) after a new one", x.count(0), n + 1);
            due("street(" + n + ", 1)", x.street(n, 1), 12);
            for (int i = 0; i < n; i++) {
                due("street(" + i + ", 1)", x.street(i, 1), i);
                x.load(i);
                due("count(0) after one in place", x.count(0), n + 1);
                due("street(" + i + ", 1) in place", x.street(i, 1), 12);
            }
        }
    }

    private static void legsStay() {
        SweeperRounds x = says("(legs stay)");
        sixStreets(x);
        for (int i = 0; i < 10; i++) {
            x.addLeg(5 - i % 6, i % 2);
        }
        write(x, "0/0/9/a");
        due("load(5) in place of one of 6", x.load(5), 1);
        due("load(0) in place of one of 1", x.load(0), 1);
        due("count(1)", x.count(1), 10);
        for (int i = 0; i < 10; i++) {
            due("leg(" + i + ", 0)", x.leg(i, 0), 5 - i % 6);
            due("leg(" + i + ", 1)", x.leg(i, 1), i % 2);
        }
        x.set(3, 6000);
        x.shift();
        due("leg(0, 2) of the shorter street", x.leg(0, 2), 1);
        due("leg(0, 3) of the shorter street", x.leg(0, 3), 76);
    }

    private static void loadAnswersCells() {
        says("Returns the number of its cells");
        for (int n = 1; n <= 20; n++) {
            reads("0/0/" + times(n, "1") + "/" + times(n, "j"), n);
        }
    }

    private static void badBeforeFullBeforeFault() {
        says("BAD if street is out of range; FULL if a new one is wanted and there are 6 streets; -10 minus");
        String[] texts = {"", RIGHT, "61/", "12/3/4a/b"};
        for (String text : texts) {
            Setup six = x -> {
                sixStreets(x);
                write(x, text);
            };
            refused("load(6) of '" + text + "'", six, x -> x.load(6), FULL);
            refused("load(7) of '" + text + "'", six, x -> x.load(7), BAD);
            refused("load(-1) of '" + text + "'", six, x -> x.load(-1), BAD);
            refused("load(1) of '" + text + "'", x -> write(x, text), x -> x.load(1), BAD);
        }
        SweeperRounds x = made(TextBoundsTest::sixStreets);
        write(x, RIGHT);
        due("load(5) in place of the sixth", x.load(5), 2);
        due("count(0)", x.count(0), 6);
    }

    private static void faultChangesNothing() {
        says("if there is one (then nothing but what faultKind() returns is changed)");
        for (int street = 0; street <= 1; street++) {
            int s = street;
            // The load that is refused comes behind one of the same kind: faultKind() is 1 in both.
            refused("load(" + s + ")", x -> {
                x.addStreet(3, 4, 5);
                x.lay(0, 1, 2, 50);
                x.addLeg(0, 1);
                x.shift();
                write(x, "12/3/4a/b5/");
                x.load(0);
            }, x -> x.load(s), -20);
        }
    }

    private static void distanceDigits() {
        says("its distance (1 or 2 digits), a slash");
        for (int distance = 0; distance <= 60; distance++) {
            SweeperRounds x = new SweeperRounds();
            write(x, distance + "/1/2/3");
            due("load(0) of " + distance, x.load(0), 1);
            due("street(0, 1) of " + distance, x.street(0, 1), distance);
            write(x, (distance < 10 ? "0" : "") + distance + "/1/2/3");
            due("load(1) of two digits", x.load(1), 1);
            due("street(1, 1) of two digits", x.street(1, 1), distance);
        }
        fails("/1/2/3", 0, 1);
        fails("000/1/2/3", 2, 1);
        fails("1", 1, 1);
        fails("12", 2, 1);
    }

    private static void treesDigit() {
        says("its trees (a digit), a slash");
        for (int trees = 0; trees <= 9; trees++) {
            SweeperRounds x = new SweeperRounds();
            write(x, "1/" + trees + "/2/3");
            due("load(0) of trees " + trees, x.load(0), 1);
            due("street(0, 2)", x.street(0, 2), trees);
        }
        fails("1//2/3", 2, 1);
        fails("1/00/2/3", 3, 1);
        fails("1/a/2/3", 2, 1);
    }

    private static void oneToTwentyCells() {
        says("A side has 1 to 20 cells");
        String nineteen = times(19, "7");
        fails("12/3//", 5, 1);
        reads("12/3/7/7", 1);
        reads("12/3/" + nineteen + "/" + nineteen, 19);
        reads("12/3/" + nineteen + "7/" + nineteen + "7", 20);
        fails("12/3/" + nineteen + "77/" + nineteen + "77", 25, 1);
        SweeperRounds x = new SweeperRounds();
        write(x, "12/3/" + nineteen + "i/j" + nineteen);
        x.load(0);
        due("street(0, 3) of 20 cells", x.street(0, 3), 19 * 70 + 80);
        due("street(0, 4) of 20 cells", x.street(0, 4), 19 * 70 + 90);
        due("cell(0, 0, 19, 0)", x.cell(0, 0, 19, 0), 80);
        due("cell(0, 1, 0, 0)", x.cell(0, 1, 0, 0), 90);
    }

    private static void digitsAndLetters() {
        SweeperRounds x = says("each a digit d for d * 10 dirt, or a letter from a to j for 0, 10, .. 90 dirt");
        write(x, "1/1/" + CELLS + "/abcdefghij" + DIGITS);
        due("load(0)", x.load(0), 20);
        for (int side = 0; side < 2; side++) {
            for (int i = 0; i < 20; i++) {
                String cell = "cell(0, " + side + ", " + i;
                due(cell + ", 0)", x.cell(0, side, i, 0), i % 10 * 10);
                due(cell + ", 1)", x.cell(0, side, i, 1), i >= 10 == (side == 0) ? 1 : 0);
            }
        }
        String beyond = "/:`kAJz";
        for (int i = 0; i < beyond.length(); i++) {
            fails("1/1/" + beyond.charAt(i) + "/1", 4, 1);
            fails("1/1/1/" + beyond.charAt(i), 6, 1);
        }
    }

    private static void sameNumberOfCells() {
        says("both sides have the same number of cells");
        for (int left = 1; left <= 20; left++) {
            String text = "1/1/" + times(left, "b") + "/";
            fails(text + times(left - 1, "2"), 4 + 2 * left, 1);
            reads(text + times(left, "2"), left);
            fails(text + times(left + 1, "2"), 5 + 2 * left, 1);
        }
    }

    private static void noSpaces() {
        says("There are no spaces.");
        for (int i = 0; i <= RIGHT.length(); i++) {
            fails(RIGHT.substring(0, i) + " " + RIGHT.substring(i), i, 1);
        }
        for (int i = 0; i < RIGHT.length(); i++) {
            fails(RIGHT.substring(0, i) + " " + RIGHT.substring(i + 1), i, 1);
        }
    }

    private static void signsAtEachPlace() {
        says("The fault is 1 for a character that cannot stand at its place (its index");
        String[] places = {DIGITS, DIGITS + "/", "/", DIGITS, "/", CELLS, CELLS + "/", CELLS + "/", CELLS, CELLS, ""};
        // The last place stands behind a right text: nothing can stand there.
        for (int place = 0; place < places.length; place++) {
            for (char sign = 32; sign <= 126; sign++) {
                String text = RIGHT.substring(0, place) + sign + (place < 10 ? RIGHT.substring(place + 1) : "");
                if (places[place].indexOf(sign) < 0) {
                    fails(text, place, 1);
                } else {
                    SweeperRounds x = new SweeperRounds();
                    write(x, text);
                    int answer = x.load(0);
                    holds("'" + text + "' has no fault 1 at " + place, answer != -10 - place || x.faultKind() == 2);
                }
            }
        }
    }

    private static void aDigitTooMany() {
        says("also a digit too many");
        fails("123/4/5/6", 2, 1);
        fails("600/4/5/6", 2, 1);
        fails("610/4/5/6", 2, 1);
        fails("999", 2, 1);
        fails("0000", 2, 1);
        fails("12/34/5/6", 4, 1);
        fails("1/34/5/6", 3, 1);
    }

    private static void aTwentyFirstCell() {
        says("a 21st cell");
        for (int i = 0; i < CELLS.length(); i++) {
            fails("1/1/" + CELLS + CELLS.charAt(i), 24, 1);
            fails("11/1/" + CELLS + CELLS.charAt(i) + "/" + CELLS, 25, 1);
            fails("11/1/" + CELLS + "/" + CELLS + CELLS.charAt(i), 46, 1);
        }
    }

    private static void noCellOnTheLeftForIt() {
        says("and a cell of the right side for which there is none on the left side");
        fails("1/1/2/34", 7, 1);
        fails("1/1/2/3j", 7, 1);
        fails("1/1/22/3456", 9, 1);
        fails("60/9/" + times(19, "0") + "/" + times(20, "0"), 44, 1);
    }

    private static void endOfTheText() {
        says("or the end of the text where something must follow (the length of the text");
        String twenty = "10/1/" + CELLS + "/" + CELLS;
        for (int length = 0; length < twenty.length(); length++) {
            fails(twenty.substring(0, length), length, 1);
        }
        reads(twenty, 20);
        for (int length = 0; length < RIGHT.length(); length++) {
            fails(RIGHT.substring(0, length), length, 1);
        }
        fails("5", 1, 1);
        fails("5/", 2, 1);
        fails("5/5", 3, 1);
        fails("5/5/", 4, 1);
        fails("5/5/5", 5, 1);
        fails("5/5/5/", 6, 1);
        reads("5/5/5/5", 1);
    }

    private static void rightSideTooShort() {
        says("also where the right side is too short");
        fails("1/1/22/", 7, 1);
        fails("1/1/22/3", 8, 1);
        fails("60/9/" + CELLS + "/" + CELLS.substring(1), 45, 1);
        fails("1/1/22/3/", 8, 1);
    }

    private static void distanceTooGreat() {
        says("and 2 for a distance that is greater than 60 (the index of its first digit");
        reads("59/9/9/9", 1);
        reads("60/9/9/9", 1);
        for (int distance = 61; distance <= 99; distance++) {
            fails(distance + "/9/9/9", 0, 2);
        }
    }

    private static void distanceFoundLater() {
        says("found when another character than a digit, or the end, follows, also if this cannot stand there");
        fails("6", 1, 1);
        fails("61", 0, 2);
        fails("60", 2, 1);
        for (char sign = 32; sign <= 126; sign++) {
            boolean digit = DIGITS.indexOf(sign) >= 0;
            fails("61" + sign, digit ? 2 : 0, digit ? 1 : 2);
            fails("99" + sign + "/", digit ? 2 : 0, digit ? 1 : 2);
            if (sign != '/') {
                fails("60" + sign + "/", 2, 1);
            }
        }
    }

    private static void firstFaultCounts() {
        says("The text is read from left to right, and the first fault that is found counts.");
        fails("x61/", 0, 1);
        fails("61/xx/", 0, 2);
        fails("61//", 0, 2);
        fails("1x/y/", 1, 1);
        fails("1/x/y", 2, 1);
        fails("12/33/k", 4, 1);
        fails("1/1/k/k", 4, 1);
        fails("1/1/1/k1", 6, 1);
        fails("1/1/22/1kk", 8, 1);
        fails("1/1/" + times(21, "1") + " ", 24, 1);
    }

    private static void faultOfAFullText() {
        says("-10 minus the index of the fault if there is one");
        String full = "10/1/" + CELLS + "/" + CELLS + times(34, "~");
        due("the length of the text", full.length(), 80);
        fails(full, 46, 1);
        fails(times(80, "1"), 2, 1);
        fails(times(80, " "), 0, 1);
        fails("1/1/1/1" + times(73, " "), 7, 1);
        fails("", 0, 1);
    }

    private static void latestLoadThatRead() {
        SweeperRounds x = says("the latest call of load() that read the text found (one that returned BAD or FULL");
        sixStreets(x);
        write(x, "61/");
        x.load(0);
        due("faultKind() of 61/", x.faultKind(), 2);
        write(x, "1//");
        due("load(6)", x.load(6), FULL);
        due("load(7)", x.load(7), BAD);
        due("load(-1)", x.load(-1), BAD);
        due("faultKind() after FULL and BAD", x.faultKind(), 2);
        due("load(5)", x.load(5), -12);
        due("faultKind() of 1//", x.faultKind(), 1);
        write(x, RIGHT);
        due("load(6)", x.load(6), FULL);
        due("faultKind() after FULL", x.faultKind(), 1);
        due("load(0)", x.load(0), 2);
        due("faultKind() of a right text", x.faultKind(), 0);
        write(x, "99");
        due("load(7)", x.load(7), BAD);
        due("faultKind() after BAD", x.faultKind(), 0);
        due("load(4)", x.load(4), -10);
        x.undo();
        x.clearText();
        x.dropStreet(5);
        due("faultKind() after undo, clearText and dropStreet", x.faultKind(), 2);
    }

    private static void noFault() {
        SweeperRounds x = says("Returns 1 or 2; 0 if it found none, or there was no such call.");
        due("faultKind() of a new object", x.faultKind(), 0);
        write(x, "61/");
        due("faultKind() before load", x.faultKind(), 0);
        due("load(1)", x.load(1), BAD);
        due("faultKind() after BAD alone", x.faultKind(), 0);
        due("count(14)", x.count(14), 0);
    }
}
