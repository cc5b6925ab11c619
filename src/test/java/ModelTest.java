import java.util.ArrayDeque;
import java.util.ArrayList;
import java.util.Arrays;
import java.util.List;

/**
 * Long runs of mixed calls, each answer compared with a second model of the document. The model is
 * written another way on purpose (a shift is a list of steps that ends by an exception, nights are
 * waited one by one, texts are read by rules on substrings), so that a slip shows up as a difference.
 */
public final class ModelTest {
    private static final int RUNS = 600, CALLS = 480;

    private static int wrong = 0;
    private static long seed;

    public static void main(String[] args) {
        int[] seen = new int[9];
        for (int run = 0; run < RUNS && wrong < 10; run++) {
            seed = 7919L * run + 17;
            oneRun(run, seen);
        }
        String[] names = {"through", "broken off before a leg", "before a cell", "before a dump",
            "a full text read", "a fault", "a new brush", "a brush worn to 0", "an order of 6 legs"};
        for (int i = 0; i < seen.length; i++) {
            if (seen[i] < 20) {
                wrong++;
                System.out.println("seen too rarely: " + names[i] + ", " + seen[i] + " times");
            }
        }
        System.out.println(wrong == 0 ? "the model agrees" : wrong + " differences");
        if (wrong != 0) {
            System.exit(1);
        }
    }

    /** A linear congruence, so that every run of the test makes the same calls. */
    private static int pick(int below) {
        seed = seed * 6364136223846793005L + 1442695040888963407L;
        return (int) Math.floorMod(seed >>> 33, (long) below);
    }

    private static int near(int least, int most) {
        int dice = pick(40);
        if (dice == 0) {
            return least - 1;
        }
        if (dice == 1) {
            return most + 1;
        }
        if (dice == 2) {
            return pick(2) == 0 ? Integer.MIN_VALUE : Integer.MAX_VALUE;
        }
        if (dice < 6) {
            return pick(2) == 0 ? least : most;
        }
        return most < least ? least : least + pick(most - least + 1);
    }

    private static void oneRun(int run, int[] seen) {
        SweeperRounds x = new SweeperRounds();
        Model m = new Model();
        StringBuilder log = new StringBuilder();
        int style = pick(4);
        for (int i = 0; i < CALLS && wrong < 10; i++) {
            int method = pick(100);
            if (i < 40 && style < 3) {
                method = pick(3) == 0 ? 0 : pick(3) == 0 ? 24 : 14;
            }
            String call = step(x, m, method, seen);
            log.append(' ').append(call);
            if (wrong > 0) {
                System.out.println("run " + run + ":" + log);
                return;
            }
        }
    }

    private static String same(String call, long got, long want) {
        if (got != want) {
            wrong++;
            System.out.println(call + " answered " + got + ", the model " + want);
        }
        return call;
    }

    private static String step(SweeperRounds x, Model m, int method, int[] seen) {
        int s = near(0, m.now.streets.size() - 1);
        int side = near(0, 1);
        int c = near(0, m.cellsOf(s) - 1);
        int l = near(0, m.now.legs.size() - 1);
        if (method < 6) {
            int cells = near(1, 20), distance = pick(3) == 0 ? near(0, 60) : near(0, 9), trees = near(0, 9);
            return same("addStreet(" + cells + "," + distance + "," + trees + ")",
                x.addStreet(cells, distance, trees), m.addStreet(cells, distance, trees));
        }
        if (method < 8) {
            return same("dropStreet(" + s + ")", x.dropStreet(s), m.dropStreet(s));
        }
        if (method < 14) {
            return typeText(x, m, near(0, m.now.streets.size()), seen);
        }
        if (method < 24) {
            int dirt = near(0, 99);
            return same("lay(" + s + "," + side + "," + c + "," + dirt + ")",
                x.lay(s, side, c, dirt), m.lay(s, side, c, dirt));
        }
        if (method < 32) {
            return same("addLeg(" + s + "," + side + ")", x.addLeg(s, side), m.addLeg(s, side));
        }
        if (method < 36) {
            return same("dropLeg(" + l + ")", x.dropLeg(l), m.dropLeg(l));
        }
        if (method < 39) {
            boolean parked = pick(3) == 0;
            return same("park(" + s + "," + side + "," + c + "," + parked + ")",
                x.park(s, side, c, parked), m.park(s, side, c, parked));
        }
        if (method < 49) {
            int what = near(0, 5);
            int value = value(what, m);
            return same("set(" + what + "," + value + ")", x.set(what, value), m.set(what, value));
        }
        if (method < 61) {
            int brush = m.now.brush;
            int due = m.shift();
            seen[m.latest(0)]++;
            seen[6] += m.now.brush > brush ? 1 : 0;
            seen[7] += m.now.brush == 0 ? 1 : 0;
            return same("shift()", x.shift(), due);
        }
        if (method < 65) {
            int nights = near(1, pick(2) == 0 ? 3 : 30);
            return same("night(" + nights + ")", x.night(nights), m.night(nights));
        }
        if (method < 69) {
            int strength = near(1, 100);
            return same("rain(" + strength + ")", x.rain(strength), m.rain(strength));
        }
        if (method < 74) {
            return same("undo()", x.undo(), m.undo());
        }
        return ask(x, m, method, s, side, c, l, seen);
    }

    private static String ask(SweeperRounds x, Model m, int method, int s, int side, int c, int l, int[] seen) {
        if (method < 76) {
            int k = near(0, 6);
            boolean load = pick(2) == 0;
            seen[8] += m.now.legs.size() == 6 ? 1 : 0;
            return same("bestOrder(" + k + "," + load + ")", x.bestOrder(k, load), m.bestOrder(k, load));
        }
        if (method < 79) {
            int dirt = near(1, 99);
            return same("nightsTo(" + dirt + ")", x.nightsTo(dirt), m.nightsTo(dirt));
        }
        if (method < 80) {
            return same("clearText()", x.clearText(), m.clearText());
        }
        if (method < 81) {
            return same("faultKind()", x.faultKind(), m.faultKind);
        }
        if (method < 83) {
            int code = near(32, 126);
            return same("type(" + code + ")", x.type(code), m.type(code));
        }
        if (method < 85) {
            int what = near(0, 7);
            return same("street(" + s + "," + what + ")", x.street(s, what), m.street(s, what));
        }
        if (method < 87) {
            int what = near(0, 2);
            return same("cell(" + s + "," + side + "," + c + "," + what + ")",
                x.cell(s, side, c, what), m.cell(s, side, c, what));
        }
        if (method < 88) {
            int what = near(0, 3);
            return same("leg(" + l + "," + what + ")", x.leg(l, what), m.leg(l, what));
        }
        if (method < 89) {
            int what = near(0, 5);
            return same("latest(" + what + ")", x.latest(what), m.latest(what));
        }
        if (method < 90) {
            int what = near(0, 6);
            return same("account(" + what + ")", x.account(what), m.account(what));
        }
        if (method < 91) {
            int what = near(0, 14);
            return same("count(" + what + ")", x.count(what), m.count(what));
        }
        if (method < 93) {
            int speed = near(1, 4);
            return same("ifSpeed(" + speed + ")", x.ifSpeed(speed), m.ifSpeed(speed));
        }
        if (method < 95) {
            return same("bestSpeed()", x.bestSpeed(), m.bestSpeed());
        }
        m.balance();
        return same("digest()", x.digest(), m.digest());
    }

    private static int value(int what, Model m) {
        int[] least = {1, 20, 0, 100, 0, 0};
        int[] most = {4, 2000, 9, 6000, 1000, 400};
        if (what < 0 || what > 5) {
            return pick(200);
        }
        if (what == 1 && pick(2) == 0) {
            return near(m.now.hopper, Math.min(m.now.hopper + 30, 2000));
        }
        if (what == 3 && pick(2) == 0) {
            return near(100, 500);
        }
        if (what == 2 && pick(2) == 0) {
            return 0;
        }
        return near(least[what], most[what]);
    }

    private static String typeText(SweeperRounds x, Model m, int street, int[] seen) {
        StringBuilder text = new StringBuilder();
        int cells = pick(8) == 0 ? 18 + pick(4) : 1 + pick(9);
        int tens = pick(9);
        if (tens > 0) {
            text.append(tens);
        }
        text.append(pick(10)).append('/').append(pick(10)).append('/');
        for (int side = 0; side < 2; side++) {
            for (int i = 0; i < cells; i++) {
                text.append(pick(4) == 0 ? (char) ('a' + pick(10)) : (char) ('0' + pick(10)));
            }
            text.append(side == 0 ? "/" : "");
        }
        int spoil = pick(8);
        int at = pick(text.length());
        char sign = "/0a9jk :`A5".charAt(pick(11));
        if (spoil == 0) {
            text.setLength(at);
        } else if (spoil == 1) {
            text.setCharAt(at, sign);
        } else if (spoil == 2) {
            text.insert(at, sign);
        } else if (spoil == 3) {
            text.deleteCharAt(at);
        }
        same("clearText()", x.clearText(), m.clearText());
        for (int i = 0; i < text.length(); i++) {
            same("type", x.type(text.charAt(i)), m.type(text.charAt(i)));
        }
        int due = m.load(street);
        seen[4] += due > 0 ? 1 : 0;
        seen[5] += due <= -10 ? 1 : 0;
        same("load(" + street + ")", x.load(street), due);
        return same("load(" + street + ") of " + text, x.faultKind(), m.faultKind);
    }

    private static final class Road {
        int distance, trees;
        int[][] dirt;
        boolean[][] cars;

        Road(int cells, int distance, int trees) {
            this.distance = distance;
            this.trees = trees;
            dirt = new int[2][cells];
            cars = new boolean[2][cells];
        }

        Road copy() {
            Road road = new Road(dirt[0].length, distance, trees);
            for (int side = 0; side < 2; side++) {
                road.dirt[side] = dirt[side].clone();
                road.cars[side] = cars[side].clone();
            }
            return road;
        }

        int sum() {
            return Arrays.stream(dirt[0]).sum() + Arrays.stream(dirt[1]).sum();
        }
    }

    /** A broken-off shift, with its reason. */
    private static final class BrokenOff extends Exception {
        private static final long serialVersionUID = 1;
        final int reason;

        BrokenOff(int reason) {
            super(null, null, false, false);
            this.reason = reason;
        }
    }

    private static final class Fault extends Exception {
        private static final long serialVersionUID = 1;
        final int kind, index;

        Fault(int kind, int index) {
            super(null, null, false, false);
            this.kind = kind;
            this.index = index;
        }
    }

    private static final class Snapshot {
        List<Road> streets = new ArrayList<>();
        /** Of each leg: street, side, swept cells, load. */
        List<int[]> legs = new ArrayList<>();
        boolean fresh;
        int[] numbers = {2, 300, 1, 2400, 200, 100};
        int brush = 1000, hopper, shifts, nights;
        long laid, fell, taken, blown, washed, dumped;
        int[] report;

        Snapshot copy() {
            Snapshot s = new Snapshot();
            for (Road road : streets) {
                s.streets.add(road.copy());
            }
            for (int[] leg : legs) {
                s.legs.add(leg.clone());
            }
            s.fresh = fresh;
            s.numbers = numbers.clone();
            s.brush = brush;
            s.hopper = hopper;
            s.shifts = shifts;
            s.nights = nights;
            s.laid = laid;
            s.fell = fell;
            s.taken = taken;
            s.blown = blown;
            s.washed = washed;
            s.dumped = dumped;
            s.report = report == null ? null : report.clone();
            return s;
        }

        int grip() {
            return (100 - 15 * (numbers[0] - 1)) * brush / 1000;
        }

        int could(Road road, int side, int cell) {
            return road.cars[side][cell] ? 0 : road.dirt[side][cell] * grip() / 100;
        }

        int lying() {
            return streets.stream().mapToInt(Road::sum).sum();
        }

        // The shift: units so far, and the street where the machine is (null for the dump).
        private int units, trips, took, worn;
        private Road at;

        int shift() {
            units = 0;
            trips = 0;
            took = 0;
            worn = 0;
            at = null;
            for (int[] leg : legs) {
                leg[2] = 0;
                leg[3] = 0;
            }
            int reason = 0;
            int number = 0;
            try {
                for (number = 0; number < legs.size(); number++) {
                    leg(legs.get(number));
                }
            } catch (BrokenOff e) {
                reason = e.reason;
            }
            units += at == null ? 0 : at.distance * 10;
            if (hopper * 2 >= numbers[1]) {
                dump();
            }
            if (brush < numbers[4] && numbers[2] > 0) {
                numbers[2]--;
                brush = 1000;
            }
            shifts++;
            fresh = true;
            report = new int[] {reason, units, trips, took, worn, number};
            return took;
        }

        private void spend(int more, Road there, int reason) throws BrokenOff {
            int rest = numbers[3] - units;
            if (more + there.distance * 10 > rest) {
                throw new BrokenOff(reason);
            }
            units += more;
        }

        private void leg(int[] leg) throws BrokenOff {
            Road road = streets.get(leg[0]);
            int way = at == null ? road.distance * 10
                : at == road ? 0 : Math.abs(at.distance - road.distance) * 10 + 50;
            spend(way, road, 1);
            at = road;
            int cell = 0;
            while (cell < road.dirt[0].length) {
                spend(new int[] {0, 12, 6, 4, 3}[numbers[0]], road, 2);
                int wanted = could(road, leg[1], cell);
                int got = wanted;
                boolean again = false;
                if (hopper + wanted > numbers[1]) {
                    got = numbers[1] - hopper;
                    again = true;
                }
                road.dirt[leg[1]][cell] -= got;
                hopper += got;
                took += got;
                leg[3] += got;
                int loss = 1 + got * numbers[0] / 20;
                loss = loss > brush ? brush : loss;
                brush -= loss;
                worn += loss;
                if (!again) {
                    leg[2]++;
                    cell++;
                }
                if (again || hopper == numbers[1]) {
                    spend(road.distance * 20 + 100, road, 3);
                    trips++;
                    dump();
                }
            }
        }

        private void dump() {
            dumped += hopper;
            hopper = 0;
        }
    }

    private static final class Model {
        Snapshot now = new Snapshot();
        final ArrayDeque<Snapshot> past = new ArrayDeque<>();
        String text = "";
        int faultKind = 0;

        private static boolean in(int value, int least, int most) {
            return value >= least && value <= most;
        }

        private boolean isStreet(int s) {
            return in(s, 0, now.streets.size() - 1);
        }

        private boolean isCell(int s, int side, int c) {
            return isStreet(s) && in(side, 0, 1) && in(c, 0, cellsOf(s) - 1);
        }

        private boolean isLeg(int l) {
            return in(l, 0, now.legs.size() - 1);
        }

        int cellsOf(int s) {
            return isStreet(s) ? now.streets.get(s).dirt[0].length : 3;
        }

        private void change() {
            past.addLast(now.copy());
            if (past.size() > 8) {
                past.removeFirst();
            }
        }

        int type(int code) {
            if (!in(code, 32, 126)) {
                return -1;
            }
            if (text.length() == 80) {
                return -3;
            }
            text += (char) code;
            return text.length();
        }

        int clearText() {
            int length = text.length();
            text = "";
            return length;
        }

        int load(int s) {
            if (!in(s, 0, now.streets.size())) {
                return -1;
            }
            if (s == 6) {
                return -3;
            }
            Road road;
            try {
                road = read();
            } catch (Fault fault) {
                faultKind = fault.kind;
                return -10 - fault.index;
            }
            faultKind = 0;
            change();
            if (s < now.streets.size()) {
                now.taken += now.streets.get(s).sum();
                now.streets.set(s, road);
            } else {
                now.streets.add(road);
            }
            now.laid += road.sum();
            now.fresh = false;
            return road.dirt[0].length;
        }

        /** A text that goes on behind the buffer's end with a sign that can stand nowhere. */
        private Road read() throws Fault {
            String t = text + "~~~~";
            int digits = 0;
            while (digits < 3 && Character.isDigit(t.charAt(digits))) {
                digits++;
            }
            if (digits == 0 || digits == 3) {
                throw new Fault(1, digits == 0 ? 0 : 2);
            }
            int distance = Integer.parseInt(t.substring(0, digits));
            if (distance > 60) {
                throw new Fault(2, 0);
            }
            expect(t, digits, "/");
            expect(t, digits + 1, "0123456789");
            expect(t, digits + 2, "/");
            int left = digits + 3;
            int n = 0;
            while (n < 20 && isCellSign(t.charAt(left + n))) {
                n++;
            }
            if (n == 0) {
                throw new Fault(1, left);
            }
            expect(t, left + n, "/");
            int right = left + n + 1;
            for (int i = 0; i < n; i++) {
                expect(t, right + i, "0123456789abcdefghij");
            }
            if (text.length() > right + n) {
                throw new Fault(1, right + n);
            }
            Road road = new Road(n, distance, t.charAt(digits + 1) - '0');
            for (int i = 0; i < 2 * n; i++) {
                int place = "0123456789abcdefghij".indexOf(t.charAt((i < n ? left : right) + i % n));
                road.dirt[i / n][i % n] = place % 10 * 10;
                road.cars[i / n][i % n] = place >= 10;
            }
            return road;
        }

        private static boolean isCellSign(char sign) {
            return "0123456789abcdefghij".indexOf(sign) >= 0;
        }

        private static void expect(String t, int index, String signs) throws Fault {
            if (signs.indexOf(t.charAt(index)) < 0) {
                throw new Fault(1, index);
            }
        }

        int addStreet(int cells, int distance, int trees) {
            if (!in(cells, 1, 20) || !in(distance, 0, 60) || !in(trees, 0, 9)) {
                return -1;
            }
            if (now.streets.size() == 6) {
                return -3;
            }
            change();
            now.streets.add(new Road(cells, distance, trees));
            now.fresh = false;
            return now.streets.size() - 1;
        }

        int dropStreet(int s) {
            if (!isStreet(s)) {
                return -1;
            }
            change();
            now.taken += now.streets.remove(s).sum();
            now.legs.removeIf(leg -> leg[0] == s);
            now.legs.forEach(leg -> leg[0] -= leg[0] > s ? 1 : 0);
            now.fresh = false;
            return now.legs.size();
        }

        int lay(int s, int side, int c, int dirt) {
            if (!isCell(s, side, c) || !in(dirt, 0, 99)) {
                return -1;
            }
            change();
            int[] row = now.streets.get(s).dirt[side];
            int before = row[c];
            row[c] = dirt;
            if (dirt > before) {
                now.laid += dirt - before;
            } else {
                now.taken += before - dirt;
            }
            return before;
        }

        int park(int s, int side, int c, boolean parked) {
            if (!isCell(s, side, c)) {
                return -1;
            }
            change();
            boolean[] row = now.streets.get(s).cars[side];
            int before = row[c] ? 1 : 0;
            row[c] = parked;
            return before;
        }

        int cell(int s, int side, int c, int what) {
            if (!isCell(s, side, c) || !in(what, 0, 2)) {
                return -1;
            }
            Road road = now.streets.get(s);
            return what == 0 ? road.dirt[side][c] : what == 1 ? (road.cars[side][c] ? 1 : 0)
                : Math.min(now.could(road, side, c), now.numbers[1] - now.hopper);
        }

        int street(int s, int what) {
            if (!isStreet(s) || !in(what, 0, 7)) {
                return -1;
            }
            Road road = now.streets.get(s);
            int parked = 0, most = 0;
            for (int side = 0; side < 2; side++) {
                for (int c = 0; c < cellsOf(s); c++) {
                    parked += road.cars[side][c] ? 1 : 0;
                    most = Math.max(most, road.dirt[side][c]);
                }
            }
            int legs = (int) now.legs.stream().filter(leg -> leg[0] == s).count();
            return new int[] {cellsOf(s), road.distance, road.trees, Arrays.stream(road.dirt[0]).sum(),
                Arrays.stream(road.dirt[1]).sum(), parked, most, legs}[what];
        }

        int set(int what, int value) {
            int[] least = {1, Math.max(20, now.hopper), 0, 100, 0, 0};
            int[] most = {4, 2000, 9, 6000, 1000, 400};
            if (!in(what, 0, 5) || !in(value, least[what], most[what])) {
                return -1;
            }
            change();
            int before = now.numbers[what];
            now.numbers[what] = value;
            return before;
        }

        int addLeg(int s, int side) {
            if (!isStreet(s) || !in(side, 0, 1)) {
                return -1;
            }
            if (now.legs.size() == 10) {
                return -3;
            }
            change();
            now.legs.add(new int[] {s, side, 0, 0});
            now.fresh = false;
            return now.legs.size() - 1;
        }

        int dropLeg(int l) {
            if (!isLeg(l)) {
                return -1;
            }
            change();
            now.legs.remove(l);
            now.fresh = false;
            return now.legs.size();
        }

        int leg(int l, int what) {
            if (!isLeg(l) || !in(what, 0, 3)) {
                return -1;
            }
            return what >= 2 && !now.fresh ? -2 : now.legs.get(l)[what];
        }

        int shift() {
            change();
            return now.shift();
        }

        int night(int nights) {
            if (!in(nights, 1, 30)) {
                return -1;
            }
            change();
            for (int i = 0; i < nights; i++) {
                oneNight(now);
            }
            return now.lying();
        }

        private static void oneNight(Snapshot s) {
            s.nights++;
            for (Road road : s.streets) {
                for (int[] row : road.dirt) {
                    for (int c = 0; c < row.length; c++) {
                        int fall = road.trees * s.numbers[5] / 100;
                        s.fell += fall;
                        row[c] += fall;
                        if (row[c] > 99) {
                            s.blown += row[c] - 99;
                            row[c] = 99;
                        }
                    }
                }
            }
        }

        int rain(int strength) {
            if (!in(strength, 1, 100)) {
                return -1;
            }
            change();
            int before = now.lying();
            for (Road road : now.streets) {
                for (int side = 0; side < 2; side++) {
                    int[] row = road.dirt[side];
                    for (int c = row.length - 1; c >= 0; c--) {
                        if (road.cars[side][c]) {
                            continue;
                        }
                        int runs = row[c] * strength / 100;
                        row[c] -= runs;
                        if (c + 1 < row.length) {
                            row[c + 1] = Math.min(99, row[c + 1] + runs);
                        }
                    }
                }
            }
            now.washed += before - now.lying();
            return before - now.lying();
        }

        int latest(int what) {
            return !in(what, 0, 5) ? -1 : now.report == null ? -9 : now.report[what];
        }

        private int[] atSpeed(int speed) {
            Snapshot other = now.copy();
            other.numbers[0] = speed;
            other.shift();
            return other.report;
        }

        int ifSpeed(int speed) {
            return in(speed, 1, 4) ? atSpeed(speed)[3] : -1;
        }

        int bestSpeed() {
            int best = 4;
            for (int speed = 3; speed >= 1; speed--) {
                int[] one = atSpeed(speed);
                int[] other = atSpeed(best);
                if (one[3] > other[3] || one[3] == other[3] && one[1] <= other[1]) {
                    best = speed;
                }
            }
            return best;
        }

        int bestOrder(int k, boolean load) {
            if (k < 0) {
                return -1;
            }
            if (now.legs.size() > 6) {
                return -2;
            }
            if (k >= now.legs.size()) {
                return -9;
            }
            int[] best = new int[now.legs.size() + 1];
            best[now.legs.size()] = -1;
            orders(new ArrayList<>(), best);
            return load ? best[now.legs.size()] : best[k];
        }

        private void orders(List<Integer> order, int[] best) {
            int n = now.legs.size();
            if (order.size() == n) {
                Snapshot other = now.copy();
                for (int i = 0; i < n; i++) {
                    other.legs.set(i, now.legs.get(order.get(i)).clone());
                }
                int took = other.shift();
                if (took > best[n]) {
                    best[n] = took;
                    for (int i = 0; i < n; i++) {
                        best[i] = order.get(i);
                    }
                }
                return;
            }
            for (Integer leg = 0; leg < n; leg++) {
                if (!order.contains(leg)) {
                    order.add(leg);
                    orders(order, best);
                    order.remove(leg);
                }
            }
        }

        int nightsTo(int dirt) {
            if (!in(dirt, 1, 99)) {
                return -1;
            }
            Snapshot other = now.copy();
            for (int nights = 0; nights <= 100; nights++) {
                for (Road road : other.streets) {
                    for (int[] row : road.dirt) {
                        if (Arrays.stream(row).anyMatch(d -> d >= dirt)) {
                            return nights;
                        }
                    }
                }
                oneNight(other);
            }
            return -9;
        }

        int account(int what) {
            long[] sums = {now.laid, now.fell, now.taken, now.blown, now.washed, now.dumped, now.lying()};
            return in(what, 0, 6) ? (int) sums[what] : -1;
        }

        int undo() {
            if (past.isEmpty()) {
                return -2;
            }
            now = past.removeLast();
            return past.size();
        }

        int count(int what) {
            int[] counts = {now.streets.size(), now.legs.size(), now.numbers[0], now.brush, now.hopper,
                now.numbers[1], now.numbers[2], now.numbers[3], now.numbers[4], now.numbers[5], now.grip(),
                now.shifts, now.nights, text.length(), past.size()};
            return in(what, 0, 14) ? counts[what] : -1;
        }

        /** What lies on streets and in the hopper is what came minus what went. */
        void balance() {
            same("balance", now.laid + now.fell - now.taken - now.blown - now.washed - now.dumped,
                now.lying() + now.hopper);
        }

        long digest() {
            long h = 18926;
            for (int i = 0; i <= 14; i++) {
                h = 31 * h + count(i);
            }
            for (int s = 0; s < now.streets.size(); s++) {
                for (int i = 0; i <= 7; i++) {
                    h = 31 * h + street(s, i);
                }
                for (int side = 0; side < 2; side++) {
                    for (int c = 0; c < cellsOf(s); c++) {
                        h = 31 * (31 * (31 * h + cell(s, side, c, 0)) + cell(s, side, c, 1)) + cell(s, side, c, 2);
                    }
                }
            }
            for (int l = 0; l < now.legs.size(); l++) {
                for (int i = 0; i <= 3; i++) {
                    h = 31 * h + leg(l, i);
                }
            }
            for (int i = 0; i <= 5; i++) {
                h = 31 * h + latest(i);
            }
            for (int i = 0; i <= 6; i++) {
                h = 31 * h + account(i);
            }
            for (int i = 1; i <= 4; i++) {
                h = 31 * h + ifSpeed(i);
            }
            return 31 * h + bestSpeed();
        }
    }
}
