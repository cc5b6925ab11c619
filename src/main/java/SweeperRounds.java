/**
 * Rounds of a street sweeper: streets with dirt, a machine that sweeps them in shifts, nights and
 * rain, and accounts of all dirt. What each call does is told, promise by promise, in DOC.md.
 */
public final class SweeperRounds {
    public static final int BAD = -1, STATE = -2, FULL = -3, NONE = -9;

    private static final int MAX_STREETS = 6, MAX_CELLS = 20, MAX_DISTANCE = 60, MAX_TREES = 9;
    private static final int SIDES = 2, MAX_DIRT = 99;
    private static final int MAX_LEGS = 10, MAX_ORDERED_LEGS = 6, ALL_ORDERS = 720;
    private static final int MAX_TEXT = 80, FIRST_SIGN = 32, LAST_SIGN = 126;
    private static final int MAX_STRENGTH = 100, MAX_NIGHTS = 30, MAX_NIGHTS_AHEAD = 100;
    private static final int MAX_REMEMBERED = 8;
    private static final int LEAST_SPEED = 1, MOST_SPEED = 4;

    /** The numbers of the settings, as set() has them. */
    private static final int SPEED = 0, CAPACITY = 1, SPARES = 2, LENGTH = 3, LIMIT = 4, SEASON = 5;
    private static final int SETTINGS = 6;
    private static final int[] FIRST_SETTINGS = {2, 300, 1, 2400, 200, 100};
    private static final int[] LEAST_SETTINGS = {1, 20, 0, 100, 0, 0};
    private static final int[] MOST_SETTINGS = {4, 2000, 9, 6000, 1000, 400};
    private static final int NEW_BRUSH = 1000;

    /** The numbers of the sums, as account() has them; what lies on streets follows them there. */
    private static final int LAID = 0, FELL = 1, TAKEN_AWAY = 2, BLOWN = 3, WASHED = 4, DUMPED = 5;
    private static final int SUMS = 6;

    /** The reasons for the end of a shift, as latest(0) has them. */
    private static final int THROUGH = 0, BEFORE_LEG = 1, BEFORE_CELL = 2, BEFORE_DUMP = 3;

    private static final int UNITS_PER_DISTANCE = 10, CHANGE_OF_STREET = 50, EMPTYING = 100;

    private static final int NO_FAULT = 0, WRONG_SIGN = 1, TOO_FAR = 2;
    private static final int FAULT_BASE = -10;

    private static final int COUNTS = 15;
    private static final long DIGEST_START = 18926L;

    private final Text text;
    private final Reader reader;
    private final World now;
    private final Round round;
    private final History history;
    /** A copy of the world in which shifts that only would be are carried out. */
    private final World trial;
    private final Round trialRound;
    private final Orders orders;
    private int latestFault;

    public SweeperRounds() {
        text = new Text();
        reader = new Reader();
        now = new World();
        round = new Round(now);
        history = new History();
        trial = new World();
        trialRound = new Round(trial);
        orders = new Orders();
        latestFault = NO_FAULT;
    }

    // ---- streets

    public int type(int code) {
        if (code < FIRST_SIGN || code > LAST_SIGN) {
            return BAD;
        }
        if (text.length >= MAX_TEXT) {
            return FULL;
        }
        text.append((char) code);
        return text.length;
    }

    public int clearText() {
        int before = text.length;
        text.length = 0;
        return before;
    }

    public int load(int street) {
        if (street < 0 || street > now.streetCount) {
            return BAD;
        }
        if (street >= MAX_STREETS) {
            return FULL;
        }
        latestFault = reader.read(text);
        if (latestFault != NO_FAULT) {
            return FAULT_BASE - reader.faultIndex;
        }
        history.remember(now);
        now.putStreet(street, reader.draft);
        return reader.draft.cells;
    }

    public int faultKind() {
        return latestFault;
    }

    public int addStreet(int cells, int distance, int trees) {
        if (cells < 1 || cells > MAX_CELLS || distance < 0 || distance > MAX_DISTANCE
                || trees < 0 || trees > MAX_TREES) {
            return BAD;
        }
        if (now.streetCount >= MAX_STREETS) {
            return FULL;
        }
        history.remember(now);
        return now.appendStreet(cells, distance, trees);
    }

    public int dropStreet(int street) {
        if (!now.hasStreet(street)) {
            return BAD;
        }
        history.remember(now);
        now.removeStreet(street);
        return now.legCount;
    }

    public int lay(int street, int side, int cell, int dirt) {
        if (!now.hasCell(street, side, cell) || dirt < 0 || dirt > MAX_DIRT) {
            return BAD;
        }
        history.remember(now);
        return now.layDirt(street, placeOf(side, cell), dirt);
    }

    public int park(int street, int side, int cell, boolean parked) {
        if (!now.hasCell(street, side, cell)) {
            return BAD;
        }
        history.remember(now);
        boolean[] cars = now.streets[street].parked;
        int place = placeOf(side, cell);
        boolean before = cars[place];
        cars[place] = parked;
        return before ? 1 : 0;
    }

    public int cell(int street, int side, int cell, int what) {
        if (!now.hasCell(street, side, cell)) {
            return BAD;
        }
        Street of = now.streets[street];
        int place = placeOf(side, cell);
        switch (what) {
            case 0:
                return of.dirt[place];
            case 1:
                return of.parked[place] ? 1 : 0;
            case 2:
                return Math.min(of.couldGive(place, now.grip()), now.room());
            default:
                return BAD;
        }
    }

    public int street(int street, int what) {
        if (!now.hasStreet(street)) {
            return BAD;
        }
        Street of = now.streets[street];
        switch (what) {
            case 0:
                return of.cells;
            case 1:
                return of.distance;
            case 2:
                return of.trees;
            case 3:
                return of.dirtOfSide(0);
            case 4:
                return of.dirtOfSide(1);
            case 5:
                return of.parkedCells();
            case 6:
                return of.greatestDirt();
            case 7:
                return now.legsIn(street);
            default:
                return BAD;
        }
    }

    // ---- the machine and its round

    public int set(int what, int value) {
        if (what < 0 || what >= SETTINGS || value < now.leastSetting(what)
                || value > MOST_SETTINGS[what]) {
            return BAD;
        }
        history.remember(now);
        int before = now.settings[what];
        now.settings[what] = value;
        return before;
    }

    public int addLeg(int street, int side) {
        if (!now.hasStreet(street) || side < 0 || side >= SIDES) {
            return BAD;
        }
        if (now.legCount >= MAX_LEGS) {
            return FULL;
        }
        history.remember(now);
        return now.appendLeg(street, side);
    }

    public int dropLeg(int leg) {
        if (!now.hasLeg(leg)) {
            return BAD;
        }
        history.remember(now);
        now.removeLeg(leg);
        return now.legCount;
    }

    public int leg(int leg, int what) {
        if (!now.hasLeg(leg) || what < 0 || what > 3) {
            return BAD;
        }
        Leg of = now.legs[leg];
        if (what == 0) {
            return of.street;
        }
        if (what == 1) {
            return of.side;
        }
        if (!now.legsTell) {
            return STATE;
        }
        return what == 2 ? of.sweptCells : of.taken;
    }

    // ---- what happens

    public int shift() {
        history.remember(now);
        round.carryOut();
        return now.report.taken;
    }

    public int night(int nights) {
        if (nights < 1 || nights > MAX_NIGHTS) {
            return BAD;
        }
        history.remember(now);
        now.passNights(nights);
        return now.dirtOnStreets();
    }

    public int rain(int strength) {
        if (strength < 1 || strength > MAX_STRENGTH) {
            return BAD;
        }
        history.remember(now);
        return now.washStreets(strength);
    }

    public int latest(int what) {
        if (what < 0 || what > 5) {
            return BAD;
        }
        if (now.shifts == 0) {
            return NONE;
        }
        switch (what) {
            case 0:
                return now.report.reason;
            case 1:
                return now.report.units;
            case 2:
                return now.report.trips;
            case 3:
                return now.report.taken;
            case 4:
                return now.report.worn;
            default:
                return now.report.leg;
        }
    }

    // ---- what would be

    public int ifSpeed(int speed) {
        if (speed < LEAST_SPEED || speed > MOST_SPEED) {
            return BAD;
        }
        trySpeed(speed);
        return trial.report.taken;
    }

    public int bestSpeed() {
        int best = LEAST_SPEED;
        int bestTaken = -1;
        int bestUnits = 0;
        for (int speed = LEAST_SPEED; speed <= MOST_SPEED; speed++) {
            trySpeed(speed);
            int taken = trial.report.taken;
            int units = trial.report.units;
            if (taken > bestTaken || taken == bestTaken && units < bestUnits) {
                best = speed;
                bestTaken = taken;
                bestUnits = units;
            }
        }
        return best;
    }

    public int bestOrder(int k, boolean load) {
        if (k < 0) {
            return BAD;
        }
        if (now.legCount > MAX_ORDERED_LEGS) {
            return STATE;
        }
        if (k >= now.legCount) {
            return NONE;
        }
        orders.search(now, trial, trialRound);
        return load ? orders.bestTaken : orders.best[k];
    }

    public int nightsTo(int dirt) {
        if (dirt < 1 || dirt > MAX_DIRT) {
            return BAD;
        }
        int fewest = MAX_NIGHTS_AHEAD + 1;
        for (int i = 0; i < now.streetCount; i++) {
            Street of = now.streets[i];
            fewest = Math.min(fewest, nightsUntil(dirt, of.greatestDirt(), now.fallOn(of)));
        }
        return fewest <= MAX_NIGHTS_AHEAD ? fewest : NONE;
    }

    // ---- history

    public int account(int what) {
        if (what < 0 || what > SUMS) {
            return BAD;
        }
        return what < SUMS ? now.sums[what] : now.dirtOnStreets();
    }

    public int undo() {
        if (history.size == 0) {
            return STATE;
        }
        history.restore(now);
        return history.size;
    }

    public int count(int what) {
        switch (what) {
            case 0:
                return now.streetCount;
            case 1:
                return now.legCount;
            case 2:
                return now.settings[SPEED];
            case 3:
                return now.brush;
            case 4:
                return now.hopper;
            case 5:
                return now.settings[CAPACITY];
            case 6:
                return now.settings[SPARES];
            case 7:
                return now.settings[LENGTH];
            case 8:
                return now.settings[LIMIT];
            case 9:
                return now.settings[SEASON];
            case 10:
                return now.grip();
            case 11:
                return now.shifts;
            case 12:
                return now.nights;
            case 13:
                return text.length;
            case 14:
                return history.size;
            default:
                return BAD;
        }
    }

    public long digest() {
        long h = DIGEST_START;
        for (int what = 0; what < COUNTS; what++) {
            h = mix(h, count(what));
        }
        for (int i = 0; i < now.streetCount; i++) {
            h = mixStreet(h, i);
        }
        for (int i = 0; i < now.legCount; i++) {
            for (int what = 0; what <= 3; what++) {
                h = mix(h, leg(i, what));
            }
        }
        for (int what = 0; what <= 5; what++) {
            h = mix(h, latest(what));
        }
        for (int what = 0; what <= SUMS; what++) {
            h = mix(h, account(what));
        }
        for (int speed = LEAST_SPEED; speed <= MOST_SPEED; speed++) {
            h = mix(h, ifSpeed(speed));
        }
        return mix(h, bestSpeed());
    }

    private long mixStreet(long start, int street) {
        long h = start;
        for (int what = 0; what <= 7; what++) {
            h = mix(h, street(street, what));
        }
        int cells = now.streets[street].cells;
        for (int side = 0; side < SIDES; side++) {
            for (int i = 0; i < cells; i++) {
                for (int what = 0; what <= 2; what++) {
                    h = mix(h, cell(street, side, i, what));
                }
            }
        }
        return h;
    }

    private static long mix(long h, int value) {
        return 31 * h + value;
    }

    private void trySpeed(int speed) {
        trial.copyFrom(now);
        trial.settings[SPEED] = speed;
        trialRound.carryOut();
    }

    /** How many nights pass until a cell with some dirt has as much as is wanted. */
    private static int nightsUntil(int wanted, int dirt, int fall) {
        if (dirt >= wanted) {
            return 0;
        }
        if (fall <= 0) {
            return MAX_NIGHTS_AHEAD + 1;
        }
        return (wanted - dirt + fall - 1) / fall;
    }

    /** Where a cell of a side stands in the rows of a street. */
    private static int placeOf(int side, int cell) {
        return side * MAX_CELLS + cell;
    }

    /** The text buffer. */
    private static final class Text {
        static final int END = -1;

        final char[] signs = new char[MAX_TEXT];
        int length;

        void append(char sign) {
            if (length < MAX_TEXT) {
                signs[length] = sign;
                length++;
            }
        }

        int signAt(int index) {
            return index >= 0 && index < length ? signs[index] : END;
        }
    }

    /** Reads a text as a street, from left to right, up to its first fault. */
    private static final class Reader {
        final Street draft = new Street();
        int faultIndex;
        private int at;
        private int fault;

        /** Returns the kind of the fault; without one, the street stands in the draft. */
        int read(Text text) {
            at = 0;
            fault = NO_FAULT;
            faultIndex = 0;
            draft.clear();
            if (readDistance(text) && readTrees(text) && readLeftSide(text)) {
                readRightSide(text);
            }
            return fault;
        }

        private boolean fail(int kind, int index) {
            fault = kind;
            faultIndex = index;
            return false;
        }

        private boolean readDistance(Text text) {
            if (!isDigit(text.signAt(at))) {
                return fail(WRONG_SIGN, at);
            }
            int distance = text.signAt(at) - '0';
            at++;
            if (isDigit(text.signAt(at))) {
                distance = 10 * distance + text.signAt(at) - '0';
                at++;
            }
            // A third digit is a fault of its own, and is found before the distance is known to end.
            if (distance > MAX_DISTANCE && !isDigit(text.signAt(at))) {
                return fail(TOO_FAR, 0);
            }
            draft.distance = distance;
            return readSlash(text);
        }

        private boolean readTrees(Text text) {
            if (!isDigit(text.signAt(at))) {
                return fail(WRONG_SIGN, at);
            }
            draft.trees = text.signAt(at) - '0';
            at++;
            return readSlash(text);
        }

        private boolean readLeftSide(Text text) {
            for (int i = 0; i < MAX_CELLS; i++) {
                if (i > 0 && text.signAt(at) == '/') {
                    break;
                }
                if (!readCell(text, placeOf(0, i))) {
                    return false;
                }
                draft.cells = i + 1;
            }
            return readSlash(text);
        }

        private boolean readRightSide(Text text) {
            for (int i = 0; i < draft.cells; i++) {
                if (!readCell(text, placeOf(1, i))) {
                    return false;
                }
            }
            return text.signAt(at) == Text.END || fail(WRONG_SIGN, at);
        }

        private boolean readCell(Text text, int place) {
            int sign = text.signAt(at);
            boolean parked = sign >= 'a' && sign <= 'j';
            if (!parked && !isDigit(sign)) {
                return fail(WRONG_SIGN, at);
            }
            draft.dirt[place] = 10 * (sign - (parked ? 'a' : '0'));
            draft.parked[place] = parked;
            at++;
            return true;
        }

        private boolean readSlash(Text text) {
            if (text.signAt(at) != '/') {
                return fail(WRONG_SIGN, at);
            }
            at++;
            return true;
        }

        private static boolean isDigit(int sign) {
            return sign >= '0' && sign <= '9';
        }
    }

    /** A street; side 1 stands in its rows behind the place for 20 cells of side 0. */
    private static final class Street {
        int cells;
        int distance;
        int trees;
        final int[] dirt = new int[SIDES * MAX_CELLS];
        final boolean[] parked = new boolean[SIDES * MAX_CELLS];

        void clear() {
            cells = 0;
            distance = 0;
            trees = 0;
            for (int place = 0; place < SIDES * MAX_CELLS; place++) {
                dirt[place] = 0;
                parked[place] = false;
            }
        }

        void copyFrom(Street other) {
            cells = other.cells;
            distance = other.distance;
            trees = other.trees;
            for (int place = 0; place < SIDES * MAX_CELLS; place++) {
                dirt[place] = other.dirt[place];
                parked[place] = other.parked[place];
            }
        }

        int dirtOfSide(int side) {
            int sum = 0;
            for (int i = 0; i < cells; i++) {
                sum += dirt[placeOf(side, i)];
            }
            return sum;
        }

        int allDirt() {
            return dirtOfSide(0) + dirtOfSide(1);
        }

        int parkedCells() {
            int sum = 0;
            for (int i = 0; i < cells; i++) {
                sum += parked[placeOf(0, i)] ? 1 : 0;
                sum += parked[placeOf(1, i)] ? 1 : 0;
            }
            return sum;
        }

        int greatestDirt() {
            int greatest = 0;
            for (int i = 0; i < cells; i++) {
                greatest = Math.max(greatest, dirt[placeOf(0, i)]);
                greatest = Math.max(greatest, dirt[placeOf(1, i)]);
            }
            return greatest;
        }

        /** What a machine with some grip would take of a cell if there were room for all. */
        int couldGive(int place, int grip) {
            return parked[place] ? 0 : dirt[place] * grip / 100;
        }

        /** Puts dirt on a cell, and returns what of it found no place there. */
        int putDirt(int place, int more) {
            int sum = dirt[place] + more;
            dirt[place] = Math.min(sum, MAX_DIRT);
            return sum - dirt[place];
        }

        /** Lets water run along a side, and returns what dirt went down the drain. */
        int washSide(int side, int strength) {
            int washed = 0;
            for (int i = cells - 1; i >= 0; i--) {
                int place = placeOf(side, i);
                int moved = parked[place] ? 0 : dirt[place] * strength / 100;
                dirt[place] -= moved;
                washed += i == cells - 1 ? moved : putDirt(place + 1, moved);
            }
            return washed;
        }

        int driveToDump() {
            return UNITS_PER_DISTANCE * distance;
        }
    }

    /** A leg of the round, with what the latest shift did in it. */
    private static final class Leg {
        int street;
        int side;
        int sweptCells;
        int taken;

        void copyFrom(Leg other) {
            street = other.street;
            side = other.side;
            sweptCells = other.sweptCells;
            taken = other.taken;
        }
    }

    /** What a shift came to. */
    private static final class Report {
        int reason;
        int units;
        int trips;
        int taken;
        int worn;
        int leg;

        void clear() {
            reason = THROUGH;
            units = 0;
            trips = 0;
            taken = 0;
            worn = 0;
            leg = 0;
        }

        void copyFrom(Report other) {
            reason = other.reason;
            units = other.units;
            trips = other.trips;
            taken = other.taken;
            worn = other.worn;
            leg = other.leg;
        }
    }

    /** All that undo() restores. */
    private static final class World {
        final Street[] streets = new Street[MAX_STREETS];
        int streetCount;
        final Leg[] legs = new Leg[MAX_LEGS];
        int legCount;
        /** Whether the legs still are those that the latest shift went through. */
        boolean legsTell;
        final int[] settings = new int[SETTINGS];
        int brush;
        int hopper;
        final int[] sums = new int[SUMS];
        final Report report = new Report();
        int shifts;
        int nights;

        World() {
            for (int i = 0; i < MAX_STREETS; i++) {
                streets[i] = new Street();
            }
            for (int i = 0; i < MAX_LEGS; i++) {
                legs[i] = new Leg();
            }
            System.arraycopy(FIRST_SETTINGS, 0, settings, 0, SETTINGS);
            brush = NEW_BRUSH;
        }

        void copyFrom(World other) {
            streetCount = other.streetCount;
            for (int i = 0; i < streetCount; i++) {
                streets[i].copyFrom(other.streets[i]);
            }
            legCount = other.legCount;
            for (int i = 0; i < legCount; i++) {
                legs[i].copyFrom(other.legs[i]);
            }
            legsTell = other.legsTell;
            System.arraycopy(other.settings, 0, settings, 0, SETTINGS);
            brush = other.brush;
            hopper = other.hopper;
            System.arraycopy(other.sums, 0, sums, 0, SUMS);
            report.copyFrom(other.report);
            shifts = other.shifts;
            nights = other.nights;
        }

        boolean hasStreet(int street) {
            return street >= 0 && street < streetCount;
        }

        boolean hasCell(int street, int side, int cell) {
            return hasStreet(street) && side >= 0 && side < SIDES
                    && cell >= 0 && cell < streets[street].cells;
        }

        boolean hasLeg(int leg) {
            return leg >= 0 && leg < legCount;
        }

        int dirtOnStreets() {
            int sum = 0;
            for (int i = 0; i < streetCount; i++) {
                sum += streets[i].allDirt();
            }
            return sum;
        }

        int legsIn(int street) {
            int sum = 0;
            for (int i = 0; i < legCount; i++) {
                sum += legs[i].street == street ? 1 : 0;
            }
            return sum;
        }

        void putStreet(int street, Street draft) {
            if (street < streetCount) {
                sums[TAKEN_AWAY] += streets[street].allDirt();
            } else {
                streetCount++;
            }
            streets[street].copyFrom(draft);
            sums[LAID] += draft.allDirt();
            legsTell = false;
        }

        int appendStreet(int cells, int distance, int trees) {
            Street added = streets[streetCount];
            added.clear();
            added.cells = cells;
            added.distance = distance;
            added.trees = trees;
            streetCount++;
            legsTell = false;
            return streetCount - 1;
        }

        void removeStreet(int street) {
            sums[TAKEN_AWAY] += streets[street].allDirt();
            for (int i = street; i < streetCount - 1; i++) {
                streets[i].copyFrom(streets[i + 1]);
            }
            streetCount--;
            removeLegsIn(street);
            legsTell = false;
        }

        private void removeLegsIn(int street) {
            int left = 0;
            for (int i = 0; i < legCount; i++) {
                if (legs[i].street != street) {
                    legs[left].copyFrom(legs[i]);
                    if (legs[left].street > street) {
                        legs[left].street--;
                    }
                    left++;
                }
            }
            legCount = left;
        }

        int appendLeg(int street, int side) {
            Leg added = legs[legCount];
            added.street = street;
            added.side = side;
            legCount++;
            legsTell = false;
            return legCount - 1;
        }

        void removeLeg(int leg) {
            for (int i = leg; i < legCount - 1; i++) {
                legs[i].copyFrom(legs[i + 1]);
            }
            legCount--;
            legsTell = false;
        }

        int layDirt(int street, int place, int dirt) {
            int[] row = streets[street].dirt;
            int before = row[place];
            row[place] = dirt;
            sums[LAID] += Math.max(0, dirt - before);
            sums[TAKEN_AWAY] += Math.max(0, before - dirt);
            return before;
        }

        int leastSetting(int what) {
            return what == CAPACITY ? Math.max(LEAST_SETTINGS[what], hopper) : LEAST_SETTINGS[what];
        }

        int grip() {
            return (100 - 15 * (settings[SPEED] - 1)) * brush / 1000;
        }

        int room() {
            return settings[CAPACITY] - hopper;
        }

        void emptyHopper() {
            sums[DUMPED] += hopper;
            hopper = 0;
        }

        /** How much falls on a cell of a street in a night. */
        int fallOn(Street of) {
            return of.trees * settings[SEASON] / 100;
        }

        void passNights(int passing) {
            for (int i = 0; i < streetCount; i++) {
                Street of = streets[i];
                // Blowing away at each night or after the last one comes to the same.
                int fall = fallOn(of) * passing;
                for (int j = 0; j < of.cells; j++) {
                    sums[BLOWN] += of.putDirt(placeOf(0, j), fall) + of.putDirt(placeOf(1, j), fall);
                    sums[FELL] += SIDES * fall;
                }
            }
            nights += passing;
        }

        int washStreets(int strength) {
            int washed = 0;
            for (int i = 0; i < streetCount; i++) {
                washed += streets[i].washSide(0, strength) + streets[i].washSide(1, strength);
            }
            sums[WASHED] += washed;
            return washed;
        }
    }

    /** Carries out shifts in a world. */
    private static final class Round {
        private static final int AT_DUMP = -1;
        /** Far more sweeps of one cell than the longest shift has time for. */
        private static final int MANY_SWEEPS = 1000000;

        private final World world;
        private int standsIn;

        Round(World world) {
            this.world = world;
        }

        void carryOut() {
            Report report = world.report;
            report.clear();
            standsIn = AT_DUMP;
            for (int i = 0; i < world.legCount; i++) {
                world.legs[i].sweptCells = 0;
                world.legs[i].taken = 0;
            }
            for (int i = 0; i < world.legCount && report.reason == THROUGH; i++) {
                Leg leg = world.legs[i];
                Street street = world.streets[leg.street];
                report.reason = driveToLeg(leg, street);
                for (int j = 0; j < street.cells && report.reason == THROUGH; j++) {
                    report.reason = finishCell(leg, street, placeOf(leg.side, j));
                }
                report.leg = report.reason == THROUGH ? i + 1 : i;
            }
            endShift();
        }

        private int driveToLeg(Leg leg, Street street) {
            int drive = driveTo(leg.street);
            if (!fits(drive, street)) {
                return BEFORE_LEG;
            }
            world.report.units += drive;
            standsIn = leg.street;
            return THROUGH;
        }

        private int driveTo(int target) {
            int distance = world.streets[target].distance;
            if (standsIn == AT_DUMP) {
                return UNITS_PER_DISTANCE * distance;
            }
            if (standsIn == target) {
                return 0;
            }
            int between = Math.abs(distance - world.streets[standsIn].distance);
            return UNITS_PER_DISTANCE * between + CHANGE_OF_STREET;
        }

        /** Whether the shift has time for some units that end in a street, and for the way home. */
        private boolean fits(int units, Street street) {
            return world.report.units + units + street.driveToDump() <= world.settings[LENGTH];
        }

        /** Sweeps a cell, with ways to the dump, until it need not be swept once more. */
        private int finishCell(Leg leg, Street street, int place) {
            int units = unitsForCell();
            int trip = 2 * street.driveToDump() + EMPTYING;
            for (int i = 0; i < MANY_SWEEPS; i++) {
                if (!fits(units, street)) {
                    return BEFORE_CELL;
                }
                world.report.units += units;
                boolean toItsEnd = sweepOnce(leg, street, place);
                if (toItsEnd) {
                    leg.sweptCells++;
                    if (world.room() > 0) {
                        return THROUGH;
                    }
                }
                if (!fits(trip, street)) {
                    return BEFORE_DUMP;
                }
                world.report.units += trip;
                world.report.trips++;
                world.emptyHopper();
                if (toItsEnd) {
                    return THROUGH;
                }
            }
            return BEFORE_CELL;
        }

        private int unitsForCell() {
            return 12 / Math.max(LEAST_SPEED, world.settings[SPEED]);
        }

        /** Returns whether there was room for all that the machine could take. */
        private boolean sweepOnce(Leg leg, Street street, int place) {
            int could = street.couldGive(place, world.grip());
            int taken = Math.min(could, world.room());
            street.dirt[place] -= taken;
            world.hopper += taken;
            leg.taken += taken;
            world.report.taken += taken;
            int worn = Math.min(world.brush, 1 + taken * world.settings[SPEED] / 20);
            world.brush -= worn;
            world.report.worn += worn;
            return could == taken;
        }

        private void endShift() {
            if (standsIn != AT_DUMP) {
                world.report.units += world.streets[standsIn].driveToDump();
            }
            if (2 * world.hopper >= world.settings[CAPACITY]) {
                world.emptyHopper();
            }
            if (world.brush < world.settings[LIMIT] && world.settings[SPARES] > 0) {
                world.brush = NEW_BRUSH;
                world.settings[SPARES]--;
            }
            world.shifts++;
            world.legsTell = true;
        }
    }

    /** The states before the latest changes; when there are too many, the oldest one gives way. */
    private static final class History {
        private final World[] worlds = new World[MAX_REMEMBERED];
        private int next;
        int size;

        History() {
            for (int i = 0; i < MAX_REMEMBERED; i++) {
                worlds[i] = new World();
            }
        }

        void remember(World world) {
            worlds[next].copyFrom(world);
            next = (next + 1) % MAX_REMEMBERED;
            size = Math.min(size + 1, MAX_REMEMBERED);
        }

        void restore(World world) {
            next = (next + MAX_REMEMBERED - 1) % MAX_REMEMBERED;
            world.copyFrom(worlds[next]);
            size--;
        }
    }

    /** Tries all orders of the legs, in lexicographic order. */
    private static final class Orders {
        final int[] best = new int[MAX_ORDERED_LEGS];
        int bestTaken;
        private final int[] order = new int[MAX_ORDERED_LEGS];
        private int length;

        void search(World now, World trial, Round trialRound) {
            length = Math.min(now.legCount, MAX_ORDERED_LEGS);
            for (int i = 0; i < length; i++) {
                order[i] = i;
            }
            bestTaken = -1;
            boolean more = true;
            for (int i = 0; i < ALL_ORDERS && more; i++) {
                trial.copyFrom(now);
                for (int j = 0; j < length; j++) {
                    trial.legs[j].copyFrom(now.legs[order[j]]);
                }
                trialRound.carryOut();
                if (trial.report.taken > bestTaken) {
                    bestTaken = trial.report.taken;
                    System.arraycopy(order, 0, best, 0, length);
                }
                more = stepOrder();
            }
        }

        /** Makes the order the lexicographically next one; returns false if it was the last. */
        private boolean stepOrder() {
            int rise = length - 2;
            while (rise >= 0 && order[rise] > order[rise + 1]) {
                rise--;
            }
            if (rise < 0) {
                return false;
            }
            int greater = length - 1;
            while (greater > rise && order[greater] < order[rise]) {
                greater--;
            }
            swap(rise, greater);
            for (int i = rise + 1, j = length - 1; i < j; i++, j--) {
                swap(i, j);
            }
            return true;
        }

        private void swap(int i, int j) {
            int kept = order[i];
            order[i] = order[j];
            order[j] = kept;
        }
    }
}
