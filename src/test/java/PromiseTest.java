/** The promises 1 to 27, one after the other, with answers worked out by hand from the document. */
public final class PromiseTest {
    private static final int BAD = -1, STATE = -2, FULL = -3, NONE = -9;
    private static final int LOW = Integer.MIN_VALUE, HIGH = Integer.MAX_VALUE;

    private static int wrong = 0;
    private static String promise = "";

    public static void main(String[] args) {
        newObject();
        type();
        clearText();
        load();
        loadFaults();
        loadReplaces();
        faultKind();
        addStreet();
        dropStreet();
        lay();
        park();
        cell();
        street();
        set();
        addLeg();
        dropLeg();
        leg();
        shiftUnits();
        shiftBreaksOff();
        shiftHopper();
        shiftBrush();
        night();
        rain();
        latest();
        ifSpeed();
        bestSpeed();
        bestOrder();
        nightsTo();
        account();
        undo();
        undoEachChange();
        errorsChangeNothing();
        count();
        digest();
        System.out.println(wrong == 0 ? "all promises hold" : wrong + " answers are not as due");
        if (wrong != 0) {
            System.exit(1);
        }
    }

    private static void due(String call, long got, long want) {
        if (got != want) {
            wrong++;
            System.out.println(promise + ": " + call + " answered " + got + ", due is " + want);
        }
    }

    private static SweeperRounds fresh(String name) {
        promise = name;
        return new SweeperRounds();
    }

    private static void write(SweeperRounds x, String text) {
        x.clearText();
        for (int i = 0; i < text.length(); i++) {
            due("type(" + text.charAt(i) + ")", x.type(text.charAt(i)), i + 1);
        }
    }

    private static void counts(SweeperRounds x, int... want) {
        for (int i = 0; i < want.length; i++) {
            due("count(" + i + ")", x.count(i), want[i]);
        }
    }

    private static void accounts(SweeperRounds x, int... want) {
        for (int i = 0; i < want.length; i++) {
            due("account(" + i + ")", x.account(i), want[i]);
        }
    }

    private static void latests(SweeperRounds x, int... want) {
        for (int i = 0; i < want.length; i++) {
            due("latest(" + i + ")", x.latest(i), want[i]);
        }
    }

    private static void dirts(SweeperRounds x, int street, int side, int... want) {
        for (int i = 0; i < want.length; i++) {
            due("cell(" + street + ", " + side + ", " + i + ", 0)", x.cell(street, side, i, 0), want[i]);
        }
    }

    private static void newObject() {
        SweeperRounds x = fresh("1, a new object");
        counts(x, 0, 0, 2, 1000, 0, 300, 1, 2400, 200, 100, 85, 0, 0, 0, 0);
        latests(x, NONE, NONE, NONE, NONE, NONE, NONE);
        accounts(x, 0, 0, 0, 0, 0, 0, 0);
        due("faultKind()", x.faultKind(), 0);
        due("street(0, 0)", x.street(0, 0), BAD);
        due("leg(0, 0)", x.leg(0, 0), BAD);
        due("undo()", x.undo(), STATE);
        due("clearText()", x.clearText(), 0);
        due("BAD", SweeperRounds.BAD, BAD);
        due("STATE", SweeperRounds.STATE, STATE);
        due("FULL", SweeperRounds.FULL, FULL);
        due("NONE", SweeperRounds.NONE, NONE);
        SweeperRounds other = new SweeperRounds();
        other.addStreet(3, 1, 1);
        due("count(0) of the first of two objects", x.count(0), 0);
    }

    private static void type() {
        SweeperRounds x = fresh("2, type");
        due("type(31)", x.type(31), BAD);
        due("type(127)", x.type(127), BAD);
        due("type(LOW)", x.type(LOW), BAD);
        due("type(HIGH)", x.type(HIGH), BAD);
        due("type('0' + 65536)", x.type('0' + 65536), BAD);
        due("type(32)", x.type(32), 1);
        due("type(126)", x.type(126), 2);
        for (int i = 3; i <= 80; i++) {
            due("type(65)", x.type(65), i);
        }
        due("type(65) at 80", x.type(65), FULL);
        due("type(31) at 80", x.type(31), BAD);
        due("count(13)", x.count(13), 80);
        due("count(14)", x.count(14), 0);
    }

    private static void clearText() {
        SweeperRounds x = fresh("3, clearText");
        due("clearText()", x.clearText(), 0);
        write(x, "1/2/3/4");
        due("clearText()", x.clearText(), 7);
        due("clearText()", x.clearText(), 0);
        due("count(13)", x.count(13), 0);
        due("load(0)", x.load(0), -10);
        for (int i = 0; i < 81; i++) {
            x.type(48);
        }
        due("clearText()", x.clearText(), 80);
        due("type(48)", x.type(48), 1);
    }

    private static void load() {
        SweeperRounds x = fresh("4, load");
        write(x, "60/9/0a9j/b120");
        due("load(-1)", x.load(-1), BAD);
        due("load(1)", x.load(1), BAD);
        due("load(0)", x.load(0), 4);
        due("street(0, 0)", x.street(0, 0), 4);
        due("street(0, 1)", x.street(0, 1), 60);
        due("street(0, 2)", x.street(0, 2), 9);
        dirts(x, 0, 0, 0, 0, 90, 90, BAD);
        dirts(x, 0, 1, 10, 10, 20, 0, BAD);
        int[] parked = {0, 1, 0, 1, 1, 0, 0, 0};
        for (int i = 0; i < 8; i++) {
            due("cell(0, " + i / 4 + ", " + i % 4 + ", 1)", x.cell(0, i / 4, i % 4, 1), parked[i]);
        }
        due("count(13)", x.count(13), 14);
        due("count(14)", x.count(14), 1);
        accounts(x, 220, 0, 0, 0, 0, 0, 220);
        for (int i = 1; i < 6; i++) {
            due("load(" + i + ")", x.load(i), 4);
        }
        due("load(6)", x.load(6), FULL);
        due("load(7)", x.load(7), BAD);
        due("load(LOW)", x.load(LOW), BAD);
        due("load(HIGH)", x.load(HIGH), BAD);
        due("load(5)", x.load(5), 4);
        due("count(0)", x.count(0), 6);
    }

    private static void loadFaults() {
        SweeperRounds x = fresh("4, load with a fault");
        String twenty = "01234567890123456789";
        fault(x, "", 0, 1);
        fault(x, " 1/1/1/1", 0, 1);
        fault(x, "/", 0, 1);
        fault(x, "a", 0, 1);
        fault(x, "6", 1, 1);
        fault(x, "9:", 1, 1);
        fault(x, "60", 2, 1);
        fault(x, "60 ", 2, 1);
        fault(x, "61", 0, 2);
        fault(x, "61/", 0, 2);
        fault(x, "99x", 0, 2);
        fault(x, "990/1/1/1", 2, 1);
        fault(x, "123", 2, 1);
        fault(x, "61/x", 0, 2);
        fault(x, "1/", 2, 1);
        fault(x, "1/a", 2, 1);
        fault(x, "1//", 2, 1);
        fault(x, "1/1", 3, 1);
        fault(x, "1/12", 3, 1);
        fault(x, "1/1x", 3, 1);
        fault(x, "1/1/", 4, 1);
        fault(x, "1/1//1", 4, 1);
        fault(x, "1/1/k", 4, 1);
        fault(x, "1/1/`", 4, 1);
        fault(x, "1/1/:", 4, 1);
        fault(x, "1/1/A", 4, 1);
        fault(x, "1/1/1", 5, 1);
        fault(x, "1/1/1 /1", 5, 1);
        fault(x, "1/1/1/", 6, 1);
        fault(x, "1/1/1//", 6, 1);
        fault(x, "1/1/1/k", 6, 1);
        fault(x, "1/1/12/1", 8, 1);
        fault(x, "1/1/12/1/", 8, 1);
        fault(x, "1/1/12/1k", 8, 1);
        fault(x, "1/1/12/123", 9, 1);
        fault(x, "1/1/12/12/", 9, 1);
        fault(x, "1/1/12/12 ", 9, 1);
        fault(x, "10/1/" + twenty + "0", 25, 1);
        fault(x, "10/1/" + twenty, 25, 1);
        fault(x, "10/1/" + twenty + "/" + twenty.substring(1), 45, 1);
        fault(x, "10/1/" + twenty + "/" + twenty + "0", 46, 1);
        fault(x, "6/1/" + twenty + twenty + twenty, 24, 1);
        right(x, "10/1/" + twenty + "/" + twenty, 20);
        right(x, "0/0/0/a", 1);
        right(x, "00/0/j/9", 1);
        right(x, "09/9/ja/9e", 2);
        right(x, "60/9/" + twenty.substring(1) + "/" + twenty.substring(1), 19);
    }

    private static void fault(SweeperRounds x, String text, int index, int kind) {
        write(x, text);
        int remembered = x.count(14);
        due("load(0) of " + text, x.load(0), -10 - index);
        due("faultKind() of " + text, x.faultKind(), kind);
        due("count(0) after " + text, x.count(0), 0);
        due("count(14) after " + text, x.count(14), remembered);
        due("account(0) after " + text, x.account(0), 0);
    }

    private static void right(SweeperRounds x, String text, int cells) {
        write(x, text);
        due("load(0) of " + text, x.load(0), cells);
        due("faultKind() of " + text, x.faultKind(), 0);
        due("street(0, 0) of " + text, x.street(0, 0), cells);
    }

    private static void loadReplaces() {
        SweeperRounds x = fresh("4, load in place of a street");
        x.addStreet(3, 20, 4);
        x.addStreet(5, 7, 1);
        x.addLeg(0, 1);
        x.addLeg(1, 0);
        x.lay(0, 1, 2, 77);
        x.lay(1, 0, 4, 5);
        x.shift();
        write(x, "3/2/9/i");
        int taken = x.latest(3);
        due("load(0)", x.load(0), 1);
        counts(x, 2, 2);
        due("leg(0, 0)", x.leg(0, 0), 0);
        due("leg(0, 1)", x.leg(0, 1), 1);
        due("leg(0, 2)", x.leg(0, 2), STATE);
        dirts(x, 0, 0, 90, BAD);
        dirts(x, 0, 1, 80, BAD);
        dirts(x, 1, 0, 0, 0, 0, 0, 1);
        accounts(x, 77 + 5 + 170, 0, 82 - 1 - taken, 0, 0, 0, 171);
        due("undo()", x.undo(), 7);
        due("leg(0, 2)", x.leg(0, 2), 3);
        due("account(0)", x.account(0), 82);
        write(x, "3/2/9/i/");
        due("load(0)", x.load(0), -17);
        due("leg(0, 2)", x.leg(0, 2), 3);
        due("street(0, 0)", x.street(0, 0), 3);
        due("street(0, 2)", x.street(0, 2), 4);
    }

    private static void faultKind() {
        SweeperRounds x = fresh("5, faultKind");
        due("faultKind()", x.faultKind(), 0);
        write(x, "61/1");
        due("faultKind() before load", x.faultKind(), 0);
        x.load(1);
        due("faultKind() after BAD", x.faultKind(), 0);
        x.load(0);
        due("faultKind()", x.faultKind(), 2);
        write(x, "1/2/3/4");
        due("faultKind() before load", x.faultKind(), 2);
        x.load(9);
        due("faultKind() after BAD", x.faultKind(), 2);
        x.load(0);
        due("faultKind()", x.faultKind(), 0);
        write(x, "1/2/3/");
        x.load(0);
        due("faultKind()", x.faultKind(), 1);
        x.undo();
        due("faultKind() after undo", x.faultKind(), 1);
        for (int i = 0; i < 6; i++) {
            x.addStreet(1, 1, 1);
        }
        write(x, "1/2/3/4");
        due("load(6)", x.load(6), FULL);
        due("faultKind() after FULL", x.faultKind(), 1);
        x.clearText();
        due("faultKind() after clearText", x.faultKind(), 1);
    }

    private static void addStreet() {
        SweeperRounds x = fresh("6, addStreet");
        due("addStreet(0, 0, 0)", x.addStreet(0, 0, 0), BAD);
        due("addStreet(21, 0, 0)", x.addStreet(21, 0, 0), BAD);
        due("addStreet(1, -1, 0)", x.addStreet(1, -1, 0), BAD);
        due("addStreet(1, 61, 0)", x.addStreet(1, 61, 0), BAD);
        due("addStreet(1, 0, -1)", x.addStreet(1, 0, -1), BAD);
        due("addStreet(1, 0, 10)", x.addStreet(1, 0, 10), BAD);
        due("addStreet(LOW, HIGH, LOW)", x.addStreet(LOW, HIGH, LOW), BAD);
        due("count(14)", x.count(14), 0);
        due("addStreet(1, 0, 0)", x.addStreet(1, 0, 0), 0);
        due("addStreet(20, 60, 9)", x.addStreet(20, 60, 9), 1);
        due("count(14)", x.count(14), 2);
        int[] small = {1, 0, 0, 0, 0, 0, 0, 0};
        int[] large = {20, 60, 9, 0, 0, 0, 0, 0};
        for (int i = 0; i < 8; i++) {
            due("street(0, " + i + ")", x.street(0, i), small[i]);
            due("street(1, " + i + ")", x.street(1, i), large[i]);
        }
        for (int i = 2; i < 6; i++) {
            due("addStreet(2, 3, 4)", x.addStreet(2, 3, 4), i);
        }
        due("addStreet(2, 3, 4)", x.addStreet(2, 3, 4), FULL);
        due("addStreet(2, 3, 10)", x.addStreet(2, 3, 10), BAD);
        write(x, "1/1/" + "jjjjjjjjjjjjjjjjjjjj/jjjjjjjjjjjjjjjjjjjj");
        due("load(5)", x.load(5), 20);
        x.dropStreet(5);
        due("addStreet(20, 0, 0)", x.addStreet(20, 0, 0), 5);
        due("street(5, 3)", x.street(5, 3), 0);
        due("street(5, 4)", x.street(5, 4), 0);
        due("street(5, 5)", x.street(5, 5), 0);
        due("account(0)", x.account(0), 3600);
    }

    private static void dropStreet() {
        SweeperRounds x = fresh("7, dropStreet");
        due("dropStreet(0)", x.dropStreet(0), BAD);
        x.addStreet(1, 10, 1);
        x.addStreet(2, 20, 2);
        x.addStreet(3, 30, 3);
        x.addLeg(1, 0);
        x.addLeg(2, 1);
        x.addLeg(0, 0);
        x.addLeg(1, 1);
        x.addLeg(2, 0);
        x.lay(1, 1, 1, 33);
        x.lay(2, 1, 2, 44);
        due("dropStreet(3)", x.dropStreet(3), BAD);
        due("dropStreet(-1)", x.dropStreet(-1), BAD);
        due("dropStreet(HIGH)", x.dropStreet(HIGH), BAD);
        due("dropStreet(1)", x.dropStreet(1), 3);
        counts(x, 2, 3);
        int[] streets = {1, 0, 1};
        int[] sides = {1, 0, 0};
        for (int i = 0; i < 3; i++) {
            due("leg(" + i + ", 0)", x.leg(i, 0), streets[i]);
            due("leg(" + i + ", 1)", x.leg(i, 1), sides[i]);
        }
        due("street(1, 0)", x.street(1, 0), 3);
        due("street(1, 1)", x.street(1, 1), 30);
        due("street(1, 4)", x.street(1, 4), 44);
        due("street(2, 0)", x.street(2, 0), BAD);
        accounts(x, 77, 0, 33, 0, 0, 0, 44);
        x.shift();
        due("leg(0, 2)", x.leg(0, 2), 3);
        due("dropStreet(0)", x.dropStreet(0), 2);
        due("leg(0, 2)", x.leg(0, 2), STATE);
        due("dropStreet(0)", x.dropStreet(0), 0);
        due("dropStreet(0)", x.dropStreet(0), BAD);
        counts(x, 0, 0);
    }

    private static void lay() {
        SweeperRounds x = fresh("8, lay");
        due("lay(0, 0, 0, 0)", x.lay(0, 0, 0, 0), BAD);
        x.addStreet(3, 0, 0);
        due("lay(0, 0, 0, 100)", x.lay(0, 0, 0, 100), BAD);
        due("lay(0, 0, 0, -1)", x.lay(0, 0, 0, -1), BAD);
        due("lay(0, 0, 3, 1)", x.lay(0, 0, 3, 1), BAD);
        due("lay(0, 0, -1, 1)", x.lay(0, 0, -1, 1), BAD);
        due("lay(0, 2, 0, 1)", x.lay(0, 2, 0, 1), BAD);
        due("lay(0, -1, 0, 1)", x.lay(0, -1, 0, 1), BAD);
        due("lay(1, 0, 0, 1)", x.lay(1, 0, 0, 1), BAD);
        due("lay(-1, 0, 0, 1)", x.lay(-1, 0, 0, 1), BAD);
        due("lay(HIGH, HIGH, HIGH, HIGH)", x.lay(HIGH, HIGH, HIGH, HIGH), BAD);
        due("lay(LOW, LOW, LOW, LOW)", x.lay(LOW, LOW, LOW, LOW), BAD);
        due("count(14)", x.count(14), 1);
        due("lay(0, 1, 2, 99)", x.lay(0, 1, 2, 99), 0);
        due("lay(0, 1, 2, 30)", x.lay(0, 1, 2, 30), 99);
        due("lay(0, 1, 2, 35)", x.lay(0, 1, 2, 35), 30);
        due("lay(0, 1, 2, 35)", x.lay(0, 1, 2, 35), 35);
        due("lay(0, 0, 0, 7)", x.lay(0, 0, 0, 7), 0);
        due("count(14)", x.count(14), 6);
        dirts(x, 0, 0, 7, 0, 0);
        dirts(x, 0, 1, 0, 0, 35);
        accounts(x, 99 + 5 + 7, 0, 69, 0, 0, 0, 42);
        due("lay(0, 1, 2, 0)", x.lay(0, 1, 2, 0), 35);
        accounts(x, 111, 0, 104, 0, 0, 0, 7);
    }

    private static void park() {
        SweeperRounds x = fresh("9, park");
        due("park(0, 0, 0, true)", x.park(0, 0, 0, true), BAD);
        x.addStreet(2, 0, 0);
        x.lay(0, 0, 1, 50);
        due("park(0, 0, 2, true)", x.park(0, 0, 2, true), BAD);
        due("park(0, 0, -1, true)", x.park(0, 0, -1, true), BAD);
        due("park(0, 2, 0, true)", x.park(0, 2, 0, true), BAD);
        due("park(0, -1, 0, true)", x.park(0, -1, 0, true), BAD);
        due("park(1, 0, 0, true)", x.park(1, 0, 0, true), BAD);
        due("park(-1, 0, 0, false)", x.park(-1, 0, 0, false), BAD);
        due("count(14)", x.count(14), 2);
        due("park(0, 0, 1, true)", x.park(0, 0, 1, true), 0);
        due("park(0, 0, 1, true)", x.park(0, 0, 1, true), 1);
        due("cell(0, 0, 1, 0)", x.cell(0, 0, 1, 0), 50);
        due("cell(0, 0, 1, 1)", x.cell(0, 0, 1, 1), 1);
        due("cell(0, 1, 1, 1)", x.cell(0, 1, 1, 1), 0);
        due("park(0, 0, 1, false)", x.park(0, 0, 1, false), 1);
        due("park(0, 0, 1, false)", x.park(0, 0, 1, false), 0);
        due("cell(0, 0, 1, 1)", x.cell(0, 0, 1, 1), 0);
        due("count(14)", x.count(14), 6);
    }

    private static void cell() {
        SweeperRounds x = fresh("10, cell");
        due("cell(0, 0, 0, 0)", x.cell(0, 0, 0, 0), BAD);
        x.addStreet(2, 0, 0);
        x.addLeg(0, 0);
        x.lay(0, 0, 0, 99);
        x.lay(0, 1, 1, 1);
        due("cell(0, 0, 0, 3)", x.cell(0, 0, 0, 3), BAD);
        due("cell(0, 0, 0, -1)", x.cell(0, 0, 0, -1), BAD);
        due("cell(0, 0, 2, 0)", x.cell(0, 0, 2, 0), BAD);
        due("cell(0, 0, -1, 0)", x.cell(0, 0, -1, 0), BAD);
        due("cell(0, 2, 0, 0)", x.cell(0, 2, 0, 0), BAD);
        due("cell(0, -1, 0, 0)", x.cell(0, -1, 0, 0), BAD);
        due("cell(1, 0, 0, 0)", x.cell(1, 0, 0, 0), BAD);
        due("cell(0, 0, 0, 0)", x.cell(0, 0, 0, 0), 99);
        due("cell(0, 0, 0, 1)", x.cell(0, 0, 0, 1), 0);
        due("cell(0, 0, 0, 2)", x.cell(0, 0, 0, 2), 84);
        due("cell(0, 1, 1, 2)", x.cell(0, 1, 1, 2), 0);
        x.set(0, 4);
        due("cell(0, 0, 0, 2) at speed 4", x.cell(0, 0, 0, 2), 54);
        x.set(0, 1);
        due("cell(0, 0, 0, 2) at speed 1", x.cell(0, 0, 0, 2), 99);
        x.set(1, 20);
        due("cell(0, 0, 0, 2) with room for 20", x.cell(0, 0, 0, 2), 20);
        x.park(0, 0, 0, true);
        due("cell(0, 0, 0, 2) of a parked cell", x.cell(0, 0, 0, 2), 0);
        due("count(14)", x.count(14), 8);
    }

    private static void street() {
        SweeperRounds x = fresh("11, street");
        due("street(0, 0)", x.street(0, 0), BAD);
        write(x, "12/3/0a9b/j1cc");
        x.load(0);
        x.addStreet(1, 2, 3);
        x.addLeg(0, 0);
        x.addLeg(1, 0);
        x.addLeg(0, 0);
        x.addLeg(0, 1);
        int[] want = {4, 12, 3, 100, 140, 5, 90, 3, BAD};
        for (int i = 0; i < want.length; i++) {
            due("street(0, " + i + ")", x.street(0, i), want[i]);
        }
        due("street(1, 7)", x.street(1, 7), 1);
        due("street(0, -1)", x.street(0, -1), BAD);
        due("street(0, HIGH)", x.street(0, HIGH), BAD);
        due("street(2, 0)", x.street(2, 0), BAD);
        due("street(-1, 0)", x.street(-1, 0), BAD);
        x.lay(1, 0, 0, 98);
        due("street(1, 6)", x.street(1, 6), 98);
        x.lay(1, 1, 0, 99);
        due("street(1, 6)", x.street(1, 6), 99);
        due("street(1, 4)", x.street(1, 4), 99);
    }

    private static void set() {
        SweeperRounds x = fresh("12, set");
        int[] first = {2, 300, 1, 2400, 200, 100};
        int[] least = {1, 20, 0, 100, 0, 0};
        int[] most = {4, 2000, 9, 6000, 1000, 400};
        int[] counted = {2, 5, 6, 7, 8, 9};
        for (int i = 0; i < 6; i++) {
            int remembered = x.count(14);
            due("set(" + i + ", too little)", x.set(i, least[i] - 1), BAD);
            due("set(" + i + ", too much)", x.set(i, most[i] + 1), BAD);
            due("set(" + i + ", LOW)", x.set(i, LOW), BAD);
            due("set(" + i + ", HIGH)", x.set(i, HIGH), BAD);
            due("count(14)", x.count(14), remembered);
            due("set(" + i + ", least)", x.set(i, least[i]), first[i]);
            due("count(" + counted[i] + ")", x.count(counted[i]), least[i]);
            due("set(" + i + ", most)", x.set(i, most[i]), least[i]);
            due("count(" + counted[i] + ")", x.count(counted[i]), most[i]);
            due("set(" + i + ", first)", x.set(i, first[i]), most[i]);
            due("set(" + i + ", first)", x.set(i, first[i]), first[i]);
        }
        due("set(-1, 1)", x.set(-1, 1), BAD);
        due("set(6, 100)", x.set(6, 100), BAD);
        due("set(HIGH, 100)", x.set(HIGH, 100), BAD);
        due("count(14)", x.count(14), 8);
        x.addStreet(1, 0, 0);
        x.addLeg(0, 0);
        x.lay(0, 0, 0, 99);
        due("shift()", x.shift(), 84);
        due("set(1, 83) with a load of 84", x.set(1, 83), BAD);
        due("set(1, 84) with a load of 84", x.set(1, 84), 300);
        due("cell(0, 0, 0, 2) without room", x.cell(0, 0, 0, 2), 0);
    }

    private static void addLeg() {
        SweeperRounds x = fresh("13, addLeg");
        due("addLeg(0, 0)", x.addLeg(0, 0), BAD);
        x.addStreet(1, 1, 1);
        x.addStreet(1, 1, 1);
        due("addLeg(0, 2)", x.addLeg(0, 2), BAD);
        due("addLeg(0, -1)", x.addLeg(0, -1), BAD);
        due("addLeg(2, 0)", x.addLeg(2, 0), BAD);
        due("addLeg(-1, 0)", x.addLeg(-1, 0), BAD);
        due("count(14)", x.count(14), 2);
        for (int i = 0; i < 10; i++) {
            due("addLeg(" + i % 2 + ", 1)", x.addLeg(i % 2, i / 5), i);
        }
        due("addLeg(0, 0)", x.addLeg(0, 0), FULL);
        due("addLeg(2, 0)", x.addLeg(2, 0), BAD);
        due("addLeg(0, 2)", x.addLeg(0, 2), BAD);
        for (int i = 0; i < 10; i++) {
            due("leg(" + i + ", 0)", x.leg(i, 0), i % 2);
            due("leg(" + i + ", 1)", x.leg(i, 1), i / 5);
        }
    }

    private static void dropLeg() {
        SweeperRounds x = fresh("14, dropLeg");
        due("dropLeg(0)", x.dropLeg(0), BAD);
        x.addStreet(1, 1, 1);
        x.addStreet(1, 1, 1);
        x.addLeg(0, 0);
        x.addLeg(0, 1);
        x.addLeg(1, 0);
        due("dropLeg(3)", x.dropLeg(3), BAD);
        due("dropLeg(-1)", x.dropLeg(-1), BAD);
        due("dropLeg(LOW)", x.dropLeg(LOW), BAD);
        due("count(14)", x.count(14), 5);
        due("dropLeg(1)", x.dropLeg(1), 2);
        due("leg(0, 0)", x.leg(0, 0), 0);
        due("leg(0, 1)", x.leg(0, 1), 0);
        due("leg(1, 0)", x.leg(1, 0), 1);
        due("leg(1, 1)", x.leg(1, 1), 0);
        due("leg(2, 0)", x.leg(2, 0), BAD);
        due("dropLeg(1)", x.dropLeg(1), 1);
        due("dropLeg(0)", x.dropLeg(0), 0);
        due("count(1)", x.count(1), 0);
        due("count(14)", x.count(14), 8);
    }

    private static void leg() {
        SweeperRounds x = fresh("15, leg");
        due("leg(0, 2)", x.leg(0, 2), BAD);
        write(x, "0/0/999/999");
        x.load(0);
        x.addLeg(0, 0);
        x.addLeg(0, 1);
        due("leg(0, 2) without a shift", x.leg(0, 2), STATE);
        due("leg(0, 3) without a shift", x.leg(0, 3), STATE);
        due("leg(2, 2)", x.leg(2, 2), BAD);
        due("leg(-1, 2)", x.leg(-1, 2), BAD);
        due("leg(0, 4)", x.leg(0, 4), BAD);
        due("leg(0, -1)", x.leg(0, -1), BAD);
        x.shift();
        // The grip is 85, 84, 83, 82, 82, 82, 81; for the fifth cell there is room for 2 at first.
        int[][] want = {{0, 0, 3, 76 + 75 + 74}, {0, 1, 3, 73 + 2 + 72 + 72}};
        for (int i = 0; i < 2; i++) {
            for (int j = 0; j < 4; j++) {
                due("leg(" + i + ", " + j + ")", x.leg(i, j), want[i][j]);
            }
        }
        x.lay(0, 0, 0, 3);
        x.park(0, 0, 0, true);
        x.night(1);
        x.rain(1);
        x.set(0, 3);
        due("leg(1, 2) after other changes", x.leg(1, 2), 3);
        due("addLeg(0, 0)", x.addLeg(0, 0), 2);
        due("leg(1, 2) after addLeg", x.leg(1, 2), STATE);
        due("leg(1, 1) after addLeg", x.leg(1, 1), 1);
        due("dropLeg(2)", x.dropLeg(2), 2);
        due("leg(1, 2) after dropLeg", x.leg(1, 2), STATE);
        x.shift();
        due("leg(1, 2)", x.leg(1, 2), 3);
        x.dropLeg(0);
        due("leg(0, 2) after dropLeg", x.leg(0, 2), STATE);
        x.undo();
        due("leg(0, 2) after undo", x.leg(0, 2), 3);
        x.addStreet(1, 1, 1);
        due("leg(0, 3) after addStreet", x.leg(0, 3), STATE);
        x.shift();
        x.dropStreet(1);
        due("leg(0, 3) after dropStreet", x.leg(0, 3), STATE);
        x.shift();
        x.load(1);
        due("leg(0, 3) after load", x.leg(0, 3), STATE);
        x.set(3, 100);
        x.shift();
        // 100 units are time for 25 cells at speed 3.
        due("leg(1, 2)", x.leg(1, 2), 3);
        x.dropStreet(0);
        due("leg(0, 2)", x.leg(0, 2), BAD);
    }

    private static void shiftUnits() {
        SweeperRounds x = fresh("16, shift, its units");
        due("shift() without legs", x.shift(), 0);
        latests(x, 0, 0, 0, 0, 0, 0);
        counts(x, 0, 0, 2, 1000, 0, 300, 1, 2400, 200, 100, 85, 1, 0, 0, 1);
        x.addStreet(2, 3, 0);
        x.addStreet(5, 7, 0);
        x.addLeg(0, 0);
        x.addLeg(0, 1);
        x.addLeg(1, 0);
        x.addLeg(0, 0);
        due("shift()", x.shift(), 0);
        // 30, 12, 0, 12, 90, 30, 90, 12, 30
        latests(x, 0, 306, 0, 0, 11, 4);
        due("count(3)", x.count(3), 989);
        int[] units = {30 + 24 + 24 + 90 + 60 + 90 + 24 + 30, 306, 30 + 8 + 8 + 90 + 20 + 90 + 8 + 30,
            30 + 6 + 6 + 90 + 15 + 90 + 6 + 30};
        for (int speed = 1; speed <= 4; speed++) {
            x.set(0, speed);
            x.shift();
            due("latest(1) at speed " + speed, x.latest(1), units[speed - 1]);
        }
        x.park(1, 0, 3, true);
        x.lay(1, 0, 3, 99);
        due("shift() with a parked cell", x.shift(), 0);
        due("latest(1) with a parked cell", x.latest(1), units[3]);
        due("latest(4) with a parked cell", x.latest(4), 11);
        due("leg(2, 2) with a parked cell", x.leg(2, 2), 5);
        dirts(x, 1, 0, 0, 0, 0, 99, 0);
    }

    private static void shiftBreaksOff() {
        SweeperRounds x = fresh("16, shift, broken off");
        x.addStreet(2, 10, 0);
        x.addLeg(0, 0);
        shiftOf(x, 199, 0, 1, 0, 0, 0, 0);
        due("leg(0, 2)", x.leg(0, 2), 0);
        shiftOf(x, 200, 0, 2, 200, 0, 0, 0);
        shiftOf(x, 205, 0, 2, 200, 0, 0, 0);
        shiftOf(x, 206, 0, 2, 206, 0, 1, 0);
        due("leg(0, 2)", x.leg(0, 2), 1);
        shiftOf(x, 211, 0, 2, 206, 0, 1, 0);
        shiftOf(x, 212, 0, 0, 212, 0, 2, 1);
        due("leg(0, 2)", x.leg(0, 2), 2);
        x.addStreet(1, 20, 0);
        x.addLeg(1, 0);
        // To street 1 it is 150 more, and from there 200 to the dump.
        shiftOf(x, 461, 0, 1, 212, 0, 2, 1);
        shiftOf(x, 462, 0, 2, 462, 0, 2, 1);
        due("leg(0, 2)", x.leg(0, 2), 2);
        due("leg(1, 2)", x.leg(1, 2), 0);
        shiftOf(x, 467, 0, 2, 462, 0, 2, 1);
        shiftOf(x, 468, 0, 0, 468, 0, 3, 2);
        x.dropStreet(1);
        x.set(1, 20);
        x.lay(0, 0, 0, 99);
        // The brush is 1000 - 16 = 984, so the grip is 83.
        shiftOf(x, 505, 20, 3, 206, 0, 3, 0);
        due("leg(0, 2)", x.leg(0, 2), 0);
        due("leg(0, 3)", x.leg(0, 3), 20);
        due("count(4)", x.count(4), 0);
        shiftOf(x, 506, 20, 2, 506, 1, 3, 0);
        due("leg(0, 2)", x.leg(0, 2), 0);
        due("account(5)", x.account(5), 40);
        due("cell(0, 0, 0, 0)", x.cell(0, 0, 0, 0), 59);
        // Thrice full behind the same cell: 59 * 82 / 100 = 48, 39 * 82 / 100 = 31, 19 * 81 / 100 = 15.
        shiftOf(x, 2400, 55, 0, 100 + 6 + 300 + 6 + 300 + 6 + 6 + 100, 2, 9, 1);
        due("leg(0, 2)", x.leg(0, 2), 2);
        due("leg(0, 3)", x.leg(0, 3), 55);
        due("cell(0, 0, 0, 0)", x.cell(0, 0, 0, 0), 4);
        due("count(4)", x.count(4), 0);
    }

    private static void shiftOf(SweeperRounds x, int length, int taken, int... want) {
        x.set(3, length);
        due("shift() of " + length, x.shift(), taken);
        String of = " of a shift of " + length;
        due("latest(0)" + of, x.latest(0), want[0]);
        due("latest(1)" + of, x.latest(1), want[1]);
        due("latest(2)" + of, x.latest(2), want[2]);
        due("latest(3)" + of, x.latest(3), taken);
        due("latest(4)" + of, x.latest(4), want[3]);
        due("latest(5)" + of, x.latest(5), want[4]);
    }

    private static void shiftHopper() {
        SweeperRounds x = fresh("16, shift, the hopper");
        x.addStreet(1, 5, 0);
        x.addLeg(0, 0);
        x.set(1, 20);
        x.lay(0, 0, 0, 11);
        due("shift()", x.shift(), 9);
        due("count(4) under half of the capacity", x.count(4), 9);
        x.set(1, 21);
        x.dropLeg(0);
        due("shift()", x.shift(), 0);
        due("count(4) under half of 21", x.count(4), 9);
        x.addLeg(0, 0);
        x.lay(0, 0, 0, 2);
        due("shift()", x.shift(), 1);
        due("count(4) under half of 21", x.count(4), 10);
        x.set(1, 20);
        x.dropLeg(0);
        due("shift() without legs", x.shift(), 0);
        due("count(4) at half of the capacity", x.count(4), 0);
        due("account(5)", x.account(5), 10);
        // Full with nothing more to take: to the dump and back, but not swept once more.
        x = fresh("16, shift, exactly full");
        x.addStreet(2, 5, 0);
        x.addLeg(0, 0);
        x.set(1, 20);
        x.lay(0, 0, 0, 24);
        due("shift()", x.shift(), 20);
        latests(x, 0, 50 + 6 + 200 + 6 + 50, 1, 20, 1 + 2 + 1, 1);
        x.lay(0, 0, 0, 0);
        x.lay(0, 0, 1, 24);
        due("shift()", x.shift(), 20);
        latests(x, 0, 50 + 6 + 6 + 200 + 50, 1, 20, 1 + 1 + 2, 1);
        x.lay(0, 0, 1, 24);
        x.set(3, 50 + 6 + 6 + 200 + 49);
        due("shift()", x.shift(), 20);
        latests(x, 3, 50 + 6 + 6 + 50, 0, 20, 4, 0);
        due("leg(0, 2) swept to its end", x.leg(0, 2), 2);
        x.set(3, 2400);
        x.lay(0, 0, 0, 0);
        x.lay(0, 0, 1, 23);
        due("shift() with room for 1 more", x.shift(), 19);
        latests(x, 0, 50 + 6 + 6 + 50, 0, 19, 1 + 2, 1);
        // Without room from the start, also behind a parked cell.
        x = fresh("16, shift, full from the start");
        x.addStreet(1, 5, 0);
        x.addLeg(0, 0);
        x.lay(0, 0, 0, 24);
        due("shift()", x.shift(), 20);
        due("count(4)", x.count(4), 20);
        x.set(1, 20);
        x.park(0, 0, 0, true);
        due("shift()", x.shift(), 0);
        latests(x, 0, 50 + 6 + 200 + 50, 1, 0, 1, 1);
        due("leg(0, 2)", x.leg(0, 2), 1);
        due("account(5)", x.account(5), 20);
    }

    private static void shiftBrush() {
        SweeperRounds x = fresh("16, shift, the brush");
        x.addStreet(1, 0, 0);
        x.addLeg(0, 0);
        x.lay(0, 0, 0, 99);
        x.set(4, 991);
        due("shift()", x.shift(), 84);
        latests(x, 0, 6, 0, 84, 1 + 8, 1);
        due("count(3) at the limit", x.count(3), 991);
        due("count(6)", x.count(6), 1);
        due("count(10)", x.count(10), 84);
        due("shift()", x.shift(), 12);
        due("latest(4)", x.latest(4), 2);
        due("count(3) under the limit", x.count(3), 1000);
        due("count(6)", x.count(6), 0);
        x.set(4, 1000);
        due("shift()", x.shift(), 2);
        due("count(3) without spares", x.count(3), 999);
        due("count(6)", x.count(6), 0);
        x = fresh("16, shift, a brush wears out");
        x.set(1, 2000);
        x.set(2, 0);
        x.set(3, 6000);
        x.set(0, 4);
        x.addStreet(20, 0, 0);
        for (int i = 0; i < 10; i++) {
            x.addLeg(0, 0);
        }
        for (int i = 0; i < 4; i++) {
            due("shift()", x.shift(), 0);
            due("latest(4)", x.latest(4), 200);
        }
        x.dropLeg(9);
        due("shift()", x.shift(), 0);
        due("count(3)", x.count(3), 20);
        for (int i = 0; i < 20; i++) {
            x.lay(0, 0, i, 99);
        }
        due("count(10)", x.count(10), 1);
        due("shift()", x.shift(), 0);
        due("latest(4) with a brush of 20", x.latest(4), 20);
        due("count(3)", x.count(3), 0);
        due("count(10)", x.count(10), 0);
        due("shift()", x.shift(), 0);
        due("latest(4) without a brush", x.latest(4), 0);
        due("leg(8, 2)", x.leg(8, 2), 20);
        x.set(4, 0);
        x.set(2, 3);
        x.shift();
        due("count(3) with limit 0", x.count(3), 0);
        x.set(4, 1);
        x.shift();
        due("count(3) with limit 1", x.count(3), 1000);
        due("count(6)", x.count(6), 2);
    }

    private static void night() {
        SweeperRounds x = fresh("17, night");
        due("night(0)", x.night(0), BAD);
        due("night(31)", x.night(31), BAD);
        due("night(-1)", x.night(-1), BAD);
        due("night(HIGH)", x.night(HIGH), BAD);
        due("night(30) without streets", x.night(30), 0);
        due("count(12)", x.count(12), 30);
        x.addStreet(2, 0, 9);
        x.addStreet(1, 0, 2);
        x.lay(0, 1, 1, 95);
        x.park(0, 0, 0, true);
        due("night(1)", x.night(1), 9 * 3 + 99 + 2 * 2);
        accounts(x, 95, 40, 0, 5, 0, 0, 130);
        dirts(x, 0, 0, 9, 9);
        dirts(x, 0, 1, 9, 99);
        dirts(x, 1, 0, 2);
        due("count(12)", x.count(12), 31);
        x.set(5, 34);
        // 9 * 34 / 100 = 3, 2 * 34 / 100 = 0
        due("night(2)", x.night(2), 15 * 3 + 99 + 4);
        accounts(x, 95, 40 + 24, 0, 5 + 6, 0, 0, 148);
        x.set(5, 0);
        due("night(30)", x.night(30), 148);
        x.set(5, 400);
        due("night(30)", x.night(30), 6 * 99);
        due("account(1)", x.account(1), 64 + 30 * (4 * 36 + 2 * 8));
        due("account(3)", x.account(3), 11 + 4800 - (594 - 148));
        due("count(12)", x.count(12), 93);
    }

    private static void rain() {
        SweeperRounds x = fresh("18, rain");
        due("rain(0)", x.rain(0), BAD);
        due("rain(101)", x.rain(101), BAD);
        due("rain(-1)", x.rain(-1), BAD);
        due("rain(LOW)", x.rain(LOW), BAD);
        due("count(14)", x.count(14), 0);
        due("rain(1) without streets", x.rain(1), 0);
        due("count(14)", x.count(14), 1);
        x.addStreet(3, 0, 0);
        x.lay(0, 0, 0, 51);
        x.lay(0, 0, 1, 99);
        x.lay(0, 0, 2, 99);
        x.lay(0, 1, 2, 3);
        due("rain(50)", x.rain(50), 49 + 1);
        dirts(x, 0, 0, 26, 75, 99);
        dirts(x, 0, 1, 0, 0, 2);
        accounts(x, 252, 0, 0, 0, 50, 0, 202);
        x.park(0, 0, 1, true);
        // 49 run down the drain; the parked cell keeps its 75 and gets 13.
        due("rain(50)", x.rain(50), 49 + 1);
        dirts(x, 0, 0, 13, 88, 50);
        dirts(x, 0, 1, 0, 0, 1);
        due("rain(100)", x.rain(100), 50 + 1 + 2);
        dirts(x, 0, 0, 0, 99, 0);
        x.park(0, 0, 1, false);
        x.park(0, 0, 2, true);
        due("rain(100)", x.rain(100), 0);
        dirts(x, 0, 0, 0, 0, 99);
        x.lay(0, 0, 1, 40);
        due("rain(100) onto a full cell", x.rain(100), 40);
        dirts(x, 0, 0, 0, 0, 99);
        due("rain(1) on a parked last cell", x.rain(1), 0);
        x.park(0, 0, 2, false);
        due("rain(1)", x.rain(1), 0);
        due("rain(2)", x.rain(2), 1);
        due("account(4)", x.account(4), 50 + 50 + 53 + 40 + 1);
        x.addStreet(1, 0, 0);
        x.lay(1, 1, 0, 9);
        due("rain(100) on two streets", x.rain(100), 98 + 9);
        x = fresh("18, rain, on 6 streets of 20 cells");
        write(x, "1/1/" + "99999999999999999999/99999999999999999999");
        for (int i = 0; i < 6; i++) {
            x.load(i);
        }
        // Each cell loses 45 and gets as much, but for the first one.
        due("rain(50)", x.rain(50), 6 * 2 * 45);
        for (int i = 0; i < 6; i++) {
            due("street(" + i + ", 3)", x.street(i, 3), 45 + 19 * 90);
            due("street(" + i + ", 4)", x.street(i, 4), 45 + 19 * 90);
            due("cell(" + i + ", 1, 0, 0)", x.cell(i, 1, 0, 0), 45);
        }
        due("nightsTo(99)", x.nightsTo(99), 9);
        due("night(1)", x.night(1), 6 * 2 * (45 + 19 * 90 + 20));
    }

    private static void latest() {
        SweeperRounds x = fresh("19, latest");
        due("latest(6) without a shift", x.latest(6), BAD);
        due("latest(-1) without a shift", x.latest(-1), BAD);
        latests(x, NONE, NONE, NONE, NONE, NONE, NONE);
        x.addStreet(1, 0, 0);
        x.addLeg(0, 1);
        x.lay(0, 1, 0, 60);
        x.set(1, 20);
        x.shift();
        // 51, 40 * 84 / 100 = 33, 20 * 84 / 100 = 16
        latests(x, 0, 6 + 100 + 6 + 100 + 6, 2, 56, 3 + 3 + 2, 1, BAD);
        due("latest(LOW)", x.latest(LOW), BAD);
        x.dropStreet(0);
        latests(x, 0, 218, 2, 56, 8, 1);
        x.shift();
        latests(x, 0, 0, 0, 0, 0, 0);
        x.undo();
        latests(x, 0, 218, 2, 56, 8, 1);
        x.undo();
        x.undo();
        latests(x, NONE, NONE, NONE, NONE, NONE, NONE);
        x.lay(0, 1, 0, 0);
        x.addStreet(20, 5, 0);
        x.addLeg(1, 0);
        x.set(3, 199);
        x.shift();
        // 6 to the end of street 0, 100 to street 1, 7 cells there, 50 to the dump
        latests(x, 2, 198, 0, 0, 8, 1);
        due("leg(0, 2)", x.leg(0, 2), 1);
        due("leg(1, 2)", x.leg(1, 2), 7);
        x.set(3, 6000);
        x.shift();
        latests(x, 0, 276, 0, 0, 21, 2);
        due("leg(1, 2)", x.leg(1, 2), 20);
        x.undo();
        latests(x, 2, 198, 0, 0, 8, 1);
        due("leg(0, 2) after undo", x.leg(0, 2), 1);
        due("leg(1, 2) after undo", x.leg(1, 2), 7);
    }

    private static void ifSpeed() {
        SweeperRounds x = fresh("20, ifSpeed");
        due("ifSpeed(0)", x.ifSpeed(0), BAD);
        due("ifSpeed(5)", x.ifSpeed(5), BAD);
        due("ifSpeed(LOW)", x.ifSpeed(LOW), BAD);
        due("ifSpeed(1)", x.ifSpeed(1), 0);
        due("latest(0)", x.latest(0), NONE);
        x.addStreet(3, 0, 0);
        x.addLeg(0, 0);
        x.lay(0, 0, 0, 99);
        x.lay(0, 0, 2, 50);
        // The brush is 995, 990, 983, 980 before the last cell: 1 + 99 / 20, 1 + 84 * 2 / 20, ..
        long before = x.digest();
        due("ifSpeed(1)", x.ifSpeed(1), 99 + 49);
        due("ifSpeed(2)", x.ifSpeed(2), 84 + 42);
        due("ifSpeed(3)", x.ifSpeed(3), 69 + 34);
        due("ifSpeed(4)", x.ifSpeed(4), 54 + 27);
        due("digest()", x.digest(), before);
        due("count(2)", x.count(2), 2);
        due("count(14)", x.count(14), 4);
        due("latest(0)", x.latest(0), NONE);
    }

    private static void bestSpeed() {
        SweeperRounds x = fresh("21, bestSpeed");
        due("bestSpeed() without legs", x.bestSpeed(), 1);
        x.addStreet(20, 0, 0);
        x.addLeg(0, 0);
        due("bestSpeed() without dirt: the fewest units", x.bestSpeed(), 4);
        x.lay(0, 0, 0, 2);
        // 2 at speed 1, 1 at the others
        due("bestSpeed(): the most load", x.bestSpeed(), 1);
        x.lay(0, 0, 0, 3);
        // 3, 2, 2, 1
        due("bestSpeed(): the most load", x.bestSpeed(), 1);
        x.lay(0, 0, 0, 0);
        x.lay(0, 0, 19, 90);
        x.set(3, 100);
        // 12 units are too slow for the last cell, 6 as well, 4 are not.
        due("bestSpeed() in a short shift", x.bestSpeed(), 3);
        x.set(3, 120);
        due("bestSpeed() in a longer shift", x.bestSpeed(), 2);
        x.set(3, 239);
        due("bestSpeed() in a longer shift", x.bestSpeed(), 2);
        x.set(3, 240);
        long before = x.digest();
        due("bestSpeed() in a long shift", x.bestSpeed(), 1);
        due("digest()", x.digest(), before);
        x = fresh("21, bestSpeed, ties");
        x.addStreet(1, 50, 0);
        x.addLeg(0, 0);
        x.set(3, 100);
        due("bestSpeed() before the first leg: the smallest", x.bestSpeed(), 1);
    }

    private static void bestOrder() {
        SweeperRounds x = fresh("22, bestOrder");
        due("bestOrder(-1, true)", x.bestOrder(-1, true), BAD);
        due("bestOrder(0, true)", x.bestOrder(0, true), NONE);
        due("bestOrder(0, false)", x.bestOrder(0, false), NONE);
        x.addStreet(1, 10, 0);
        x.addStreet(1, 0, 0);
        x.addLeg(0, 0);
        x.addLeg(1, 0);
        x.addLeg(1, 1);
        x.set(3, 206);
        x.lay(1, 1, 0, 80);
        // Street 0 uses up the shift, and the brush is best for the first leg.
        orderOf(x, 68, 2, 0, 1);
        x.lay(1, 1, 0, 50);
        // 42 as the first leg and as the second one.
        orderOf(x, 42, 1, 2, 0);
        x.lay(0, 0, 0, 90);
        // Now street 0 alone is the best.
        orderOf(x, 76, 0, 1, 2);
        x.set(3, 2400);
        // 76 + 42, or 42 + 75
        orderOf(x, 118, 0, 1, 2);
        x.lay(0, 0, 0, 50);
        x.lay(1, 1, 0, 20);
        // 17 + 42 or 42 + 16, and 16 + 42 after leg 1
        orderOf(x, 59, 2, 0, 1);
        due("bestOrder(3, true)", x.bestOrder(3, true), NONE);
        due("bestOrder(HIGH, false)", x.bestOrder(HIGH, false), NONE);
        due("bestOrder(-1, false)", x.bestOrder(-1, false), BAD);
        for (int i = 0; i < 3; i++) {
            x.addLeg(1, 1);
        }
        due("bestOrder(5, false) of 6 legs", x.bestOrder(5, false) >= 0 ? 1 : 0, 1);
        due("bestOrder(6, false) of 6 legs", x.bestOrder(6, false), NONE);
        x.addLeg(1, 1);
        due("bestOrder(0, true) of 7 legs", x.bestOrder(0, true), STATE);
        due("bestOrder(7, true) of 7 legs", x.bestOrder(7, true), STATE);
        due("bestOrder(-1, true) of 7 legs", x.bestOrder(-1, true), BAD);
        x = fresh("22, bestOrder, backwards");
        for (int i = 0; i < 6; i++) {
            x.addStreet(1, i == 0 ? 20 : 0, 0);
            x.addLeg(i, 0);
        }
        x.lay(5, 0, 0, 50);
        x.set(3, 100);
        long before = x.digest();
        // Time for one more street beside the first one: 6, 50 + 6, then 50 are too many.
        orderOf(x, 42, 1, 5, 0, 2, 3, 4);
        due("digest()", x.digest(), before);
        x.lay(4, 0, 0, 20);
        // 17 + 42, or 42 + 16
        orderOf(x, 17 + 42, 4, 5, 0, 1, 2, 3);
        x = fresh("22, bestOrder, the last order of all");
        int[] dirts = {0, 80, 50, 30, 10, 60};
        for (int i = 0; i < 6; i++) {
            x.addStreet(1, i < 4 ? 0 : 10, 0);
            x.addLeg(i, 0);
            x.lay(i, 0, 0, dirts[i]);
        }
        x.set(1, 60);
        x.set(3, 760);
        // 51, 8, 1 and to the dump, 24, 36 and to the dump, 11, 49 and to the dump, 25: 748 units
        orderOf(x, 51 + 8 + 1 + 24 + 36 + 11 + 49 + 25, 5, 4, 3, 2, 1, 0);
    }

    private static void orderOf(SweeperRounds x, int load, int... legs) {
        for (int i = 0; i < legs.length; i++) {
            due("bestOrder(" + i + ", true)", x.bestOrder(i, true), load);
            due("bestOrder(" + i + ", false)", x.bestOrder(i, false), legs[i]);
        }
    }

    private static void nightsTo() {
        SweeperRounds x = fresh("23, nightsTo");
        due("nightsTo(0)", x.nightsTo(0), BAD);
        due("nightsTo(100)", x.nightsTo(100), BAD);
        due("nightsTo(-5)", x.nightsTo(-5), BAD);
        due("nightsTo(1) without streets", x.nightsTo(1), NONE);
        x.addStreet(2, 0, 0);
        due("nightsTo(1) without trees", x.nightsTo(1), NONE);
        x.lay(0, 1, 1, 40);
        due("nightsTo(40)", x.nightsTo(40), 0);
        due("nightsTo(41)", x.nightsTo(41), NONE);
        x.addStreet(1, 0, 9);
        due("nightsTo(40)", x.nightsTo(40), 0);
        due("nightsTo(41)", x.nightsTo(41), 5);
        due("nightsTo(45)", x.nightsTo(45), 5);
        due("nightsTo(46)", x.nightsTo(46), 6);
        due("nightsTo(99)", x.nightsTo(99), 11);
        x.set(5, 12);
        due("nightsTo(99) with 1 a night", x.nightsTo(99), 99);
        x.set(5, 11);
        due("nightsTo(99) with 0 a night", x.nightsTo(99), NONE);
        x.set(5, 400);
        due("nightsTo(99) with 36 a night", x.nightsTo(99), 3);
        due("nightsTo(HIGH)", x.nightsTo(HIGH), BAD);
        x.addStreet(1, 0, 1);
        x.lay(2, 0, 0, 98);
        x.park(2, 0, 0, true);
        due("nightsTo(99) on another street", x.nightsTo(99), 1);
        due("count(12)", x.count(12), 0);
        due("count(14)", x.count(14), 8);
        due("street(1, 3)", x.street(1, 3), 0);
    }

    private static void account() {
        SweeperRounds x = fresh("24, account");
        write(x, "0/9/99/99");
        x.load(0);
        x.addStreet(1, 0, 0);
        x.addLeg(0, 0);
        x.lay(1, 0, 0, 50);
        x.lay(1, 0, 0, 20);
        accounts(x, 410, 0, 30, 0, 0, 0, 380, BAD);
        x.night(2);
        accounts(x, 410, 72, 30, 36, 0, 0, 416, BAD);
        due("rain(10)", x.rain(10), 9 + 9 + 2);
        accounts(x, 410, 72, 30, 36, 20, 0, 396, BAD);
        x.set(1, 100);
        int load = x.shift();
        accounts(x, 410, 72, 30, 36, 20, load, 396 - load, BAD);
        x.dropStreet(1);
        accounts(x, 410, 72, 48, 36, 20, load, 378 - load, BAD);
        due("account(-1)", x.account(-1), BAD);
        due("account(LOW)", x.account(LOW), BAD);
        x.undo();
        accounts(x, 410, 72, 30, 36, 20, load, 396 - load, BAD);
    }

    private static void undo() {
        SweeperRounds x = fresh("25, undo");
        due("undo()", x.undo(), STATE);
        for (int i = 0; i < 10; i++) {
            x.set(4, i);
        }
        due("count(14)", x.count(14), 8);
        for (int i = 7; i >= 0; i--) {
            due("undo()", x.undo(), i);
            due("count(8)", x.count(8), i + 1);
            due("count(14)", x.count(14), i);
        }
        due("undo()", x.undo(), STATE);
        due("count(8)", x.count(8), 1);
        x.set(4, 500);
        x.type(65);
        due("undo()", x.undo(), 0);
        due("count(8)", x.count(8), 1);
        due("count(13)", x.count(13), 1);
        due("undo()", x.undo(), STATE);
        for (int i = 0; i < 5; i++) {
            x.set(4, 10 + i);
            x.set(4, 20 + i);
            due("undo()", x.undo(), i + 1);
            due("count(8)", x.count(8), 10 + i);
        }
        for (int i = 3; i >= 0; i--) {
            due("undo()", x.undo(), i + 1);
            due("count(8)", x.count(8), 10 + i);
        }
    }

    private static void undoEachChange() {
        SweeperRounds x = fresh("25, undo of each change");
        write(x, "4/5/9a7/8h6");
        x.load(0);
        x.addStreet(2, 9, 8);
        x.addLeg(1, 1);
        x.addLeg(0, 0);
        x.shift();
        for (int i = 0; i < 18; i++) {
            long before = x.digest();
            due("change " + i + " answers no error", change(x, i) >= 0 ? 1 : 0, 1);
            due("change " + i + ": count(14)", x.count(14), 6);
            due("change " + i + ": another digest", x.digest() == before ? 1 : 0, 0);
            due("change " + i + ": undo()", x.undo(), 5);
            due("change " + i + ": digest()", x.digest(), before);
        }
    }

    private static int change(SweeperRounds x, int number) {
        switch (number) {
            case 0: return x.load(0);
            case 1: return x.load(2);
            case 2: return x.addStreet(20, 1, 1);
            case 3: return x.dropStreet(0);
            case 4: return x.dropStreet(1);
            case 5: return x.lay(1, 1, 0, 99);
            case 6: return x.lay(0, 0, 0, 0);
            case 7: return x.park(0, 0, 2, true);
            case 8: return x.park(0, 0, 1, false);
            case 9: return x.addLeg(0, 1);
            case 10: return x.dropLeg(0);
            case 11: return x.shift();
            case 12: return x.night(30);
            case 13: return x.rain(100);
            case 14: return x.set(0, 4);
            case 15: return x.set(1, 300);
            case 16: return x.set(2, 0);
            default: return x.set(5, 0);
        }
    }

    private static void errorsChangeNothing() {
        SweeperRounds x = fresh("errors change nothing");
        write(x, "4/5/9a7/8h6");
        for (int i = 0; i < 6; i++) {
            x.load(i);
        }
        for (int i = 0; i < 10; i++) {
            x.addLeg(i % 6, i % 2);
        }
        x.shift();
        long before = x.digest();
        int[] answers = {x.type(31), x.load(-1), x.load(6), x.addStreet(0, 0, 0), x.addStreet(1, 0, 0),
            x.dropStreet(6), x.lay(0, 0, 3, 0), x.park(0, 2, 0, true), x.cell(0, 0, 0, 3), x.street(6, 0),
            x.set(0, 0), x.addLeg(6, 0), x.addLeg(0, 0), x.dropLeg(10), x.leg(10, 0), x.night(0),
            x.rain(0), x.latest(6), x.ifSpeed(0), x.bestOrder(-1, true), x.bestOrder(0, true),
            x.nightsTo(0), x.account(7), x.count(15)};
        int[] want = {BAD, BAD, FULL, BAD, FULL, BAD, BAD, BAD, BAD, BAD, BAD, BAD, FULL, BAD, BAD, BAD,
            BAD, BAD, BAD, BAD, STATE, BAD, BAD, BAD};
        for (int i = 0; i < want.length; i++) {
            due("wrong call " + i, answers[i], want[i]);
        }
        due("digest()", x.digest(), before);
        due("leg(0, 2)", x.leg(0, 2), 3);
        x.type(48);
        due("load(0) with a fault", x.load(0), -21);
        x.clearText();
        write(x, "4/5/9a7/8h6");
        due("digest()", x.digest(), before);
    }

    private static void count() {
        SweeperRounds x = fresh("26, count");
        due("count(-1)", x.count(-1), BAD);
        due("count(15)", x.count(15), BAD);
        due("count(LOW)", x.count(LOW), BAD);
        due("count(HIGH)", x.count(HIGH), BAD);
        x.addStreet(1, 0, 0);
        x.addLeg(0, 0);
        x.addLeg(0, 1);
        x.lay(0, 0, 0, 50);
        x.set(0, 3);
        x.set(1, 400);
        x.set(2, 4);
        x.set(3, 600);
        x.set(4, 700);
        x.set(5, 55);
        x.type(33);
        x.shift();
        x.shift();
        x.night(7);
        x.night(4);
        // 50 * 70 / 100 = 35, then 1 + 35 * 3 / 20 = 6 and 1; 15 * 69 / 100 = 10, then 2 and 1
        counts(x, 1, 2, 3, 990, 45, 400, 4, 600, 700, 55, 69, 2, 11, 1, 8);
    }

    private static void digest() {
        SweeperRounds x = fresh("27, digest");
        due("digest() of a new object", x.digest(), digestOf(x));
        x.addStreet(2, 3, 4);
        x.addLeg(0, 1);
        due("digest() before a shift", x.digest(), digestOf(x));
        x.night(9);
        x.park(0, 1, 1, true);
        x.shift();
        due("digest() after a shift", x.digest(), digestOf(x));
        write(x, "5/6/1c/4d");
        x.load(1);
        x.addLeg(1, 0);
        x.rain(33);
        due("digest() of two streets", x.digest(), digestOf(x));
        due("digest() twice", x.digest(), digestOf(x));
    }

    private static long digestOf(SweeperRounds x) {
        java.util.ArrayList<Integer> values = new java.util.ArrayList<>();
        for (int i = 0; i <= 14; i++) {
            values.add(x.count(i));
        }
        for (int street = 0; street < x.count(0); street++) {
            for (int i = 0; i <= 7; i++) {
                values.add(x.street(street, i));
            }
            for (int i = 0; i < 2 * x.street(street, 0) * 3; i++) {
                int cell = i / 3;
                values.add(x.cell(street, cell / x.street(street, 0), cell % x.street(street, 0), i % 3));
            }
        }
        for (int i = 0; i < 4 * x.count(1); i++) {
            values.add(x.leg(i / 4, i % 4));
        }
        for (int i = 0; i <= 5; i++) {
            values.add(x.latest(i));
        }
        for (int i = 0; i <= 6; i++) {
            values.add(x.account(i));
        }
        for (int i = 1; i <= 4; i++) {
            values.add(x.ifSpeed(i));
        }
        values.add(x.bestSpeed());
        long h = 18926;
        for (int value : values) {
            h = 31 * h + value;
        }
        return h;
    }
}
