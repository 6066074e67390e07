/** Ways for heavy journeys over a net of roads; ../shared/DOC.md says what each call promises. */
public final class HeavyRoutes {
    public static final int BAD = -1, NONE = -2;

    private static final int MOST_NODES = 7;
    private static final int MOST_ROADS = 12;
    private static final int MOST_BRIDGES = 6;
    private static final int MOST_CORNERS = 6;
    private static final int MOST_AXLES = 5;
    private static final int MOST_BARS = 3;
    private static final int MOST_FOUND = 5;
    private static final int MOST_RECORDS = 50;
    private static final int MOST_JOURNEYS = 20;
    // A way comes to no node twice, so it has a road less than there are nodes.
    private static final int MOST_ROADS_OF_WAY = MOST_NODES - 1;

    private static final int LAST_PLACE = 60;
    private static final int GREATEST_VALUE = 1000;
    private static final int GREATEST_BEHIND = 30;
    private static final int GREATEST_LOAD = 1000;
    private static final int GREATEST_SIZE = 9999;
    private static final int GREATEST_LENGTH = 200;
    private static final int GREATEST_MINUTES = 600;
    private static final int GREATEST_GAP = 600;
    private static final int GREATEST_BELOW = 100;
    private static final int LAST_BEGINNING = 10000;
    private static final int DAY = 1440;
    private static final int ESCORT_MARGIN = 50;

    private static final int NO_BRIDGE = -1;
    private static final int NO_NODE = -1;
    private static final int NEVER = -1;
    private static final int NO_WAY = -1;

    private static final int BEARS = 0;
    private static final int CLOSED = 1;
    private static final int TOO_LOW = 2;
    private static final int TOO_NARROW = 3;
    private static final int BRIDGE_TOO_WEAK = 4;

    private final Net net;
    private final Finder finder;
    private final int[] records;
    private int recordCount;

    public HeavyRoutes() {
        net = new Net();
        finder = new Finder(net);
        records = new int[MOST_RECORDS];
    }

    public int node() {
        if (net.nodeCount >= MOST_NODES) {
            return BAD;
        }
        return net.nodeCount++;
    }

    public int road(int a, int b, int minutes, int height, int width) {
        if (net.roadCount >= MOST_ROADS || !net.hasNode(a) || !net.hasNode(b) || a == b) {
            return BAD;
        }
        if (!isWithin(minutes, 1, GREATEST_MINUTES) || !isSize(height) || !isSize(width)) {
            return BAD;
        }
        finder.forget();
        net.roads[net.roadCount].lay(a, b, minutes, height, width);
        return net.roadCount++;
    }

    public int bridge(int road) {
        if (!net.hasRoad(road) || net.bridgeCount >= MOST_BRIDGES || net.roads[road].bridge != NO_BRIDGE) {
            return BAD;
        }
        finder.forget();
        net.roads[road].bridge = net.bridgeCount;
        return net.bridgeCount++;
    }

    public boolean row(int bridge, long at, long above, long below) {
        if (!net.hasBridge(bridge) || !net.bridges[bridge].canTakeCorner(at)) {
            return false;
        }
        if (!isWithin(above, -GREATEST_VALUE, GREATEST_VALUE) || !isWithin(below, 1, GREATEST_VALUE)) {
            return false;
        }
        finder.forget();
        net.bridges[bridge].addCorner(at, above, below);
        net.rateBridge(bridge);
        return true;
    }

    public boolean axle(long behind, long load) {
        if (!net.journey.canTakeAxle(behind) || !isWithin(load, 0, GREATEST_LOAD)) {
            return false;
        }
        finder.forget();
        net.journey.addAxle(behind, load);
        net.rateAllBridges();
        return true;
    }

    public boolean size(int height, int width, int length) {
        if (!isSize(height) || !isSize(width) || !isWithin(length, 1, GREATEST_LENGTH)) {
            return false;
        }
        finder.forget();
        net.journey.height = height;
        net.journey.width = width;
        return true;
    }

    public boolean turn(int roadA, int roadB, boolean passes) {
        if (!net.hasRoad(roadA) || !net.hasRoad(roadB) || roadA == roadB) {
            return false;
        }
        if (!net.roads[roadA].meets(net.roads[roadB])) {
            return false;
        }
        finder.forget();
        net.roads[roadA].setTurn(roadB, passes);
        return true;
    }

    public boolean hours(int road, int from, int to) {
        if (!net.hasRoad(road) || net.roads[road].barCount >= MOST_BARS) {
            return false;
        }
        if (!isWithin(from, 0, DAY - 1) || !isWithin(to, 0, DAY - 1)) {
            return false;
        }
        finder.forget();
        net.roads[road].addBar(from, to);
        return true;
    }

    public long rating(int bridge, int part) {
        if (!net.hasBridge(bridge) || !isWithin(part, 0, 1)) {
            return BAD;
        }
        Rating kept = net.bridges[bridge].kept;
        return part == 0 ? kept.upper.lowestEighteenDigits() : kept.lower.lowestEighteenDigits();
    }

    public boolean kept(int bridge) {
        return net.hasBridge(bridge) && net.isKeptRatingTrue(bridge);
    }

    public int run(int from, int to, int minute) {
        if (!net.hasNode(from) || !net.hasNode(to) || from == to || !isWithin(minute, 0, LAST_BEGINNING)) {
            return NONE;
        }
        finder.begin(from, to, minute);
        finder.lookThrough();
        int answer = finder.keepBest();
        if (recordCount < MOST_RECORDS) {
            records[recordCount++] = answer;
        }
        return answer;
    }

    public int road2(int k) {
        Way way = finder.atHand();
        return way.hasPlace(k) ? way.roads[k] : BAD;
    }

    public int begun(int k) {
        Way way = finder.atHand();
        return way.hasPlace(k) ? way.starts[k] : BAD;
    }

    public int bars(int k, int what) {
        if (k < 0 || !isWithin(what, 0, 1)) {
            return BAD;
        }
        int passed = 0;
        for (int r = 0; r < net.roadCount; r++) {
            int reason = net.whyNotBearing(r);
            if (reason != BEARS && passed++ == k) {
                return what == 0 ? r : reason;
            }
        }
        return BAD;
    }

    public int alternate(long above, long below) {
        if (!isWithin(below, 1, GREATEST_BELOW) || !isWithin(above, 0, below)) {
            return NONE;
        }
        if (finder.foundCount == 0 || finder.foundCount >= MOST_FOUND) {
            return NONE;
        }
        finder.limitSharing(above, below);
        finder.lookThrough();
        return finder.keepBest();
    }

    public int slow(int bridge, boolean on) {
        if (!net.hasBridge(bridge)) {
            return BAD;
        }
        finder.forget();
        boolean before = net.bridges[bridge].slow;
        net.bridges[bridge].slow = on;
        return before ? 1 : 0;
    }

    public int convoy(int n, int gap) {
        if (finder.foundCount == 0 || !isWithin(n, 1, MOST_JOURNEYS) || !isWithin(gap, 0, GREATEST_GAP)) {
            return BAD;
        }
        int last = finder.minute;
        for (int i = 0; i < n; i++) {
            last = Math.max(last, net.endOfDrive(finder.atHand(), finder.minute + i * gap));
        }
        return last - finder.minute;
    }

    public int escort(int k) {
        if (k < 0) {
            return BAD;
        }
        Way way = finder.atHand();
        int passed = 0;
        for (int i = 0; i < way.length; i++) {
            if (net.wantsEscort(way.roads[i]) && passed++ == k) {
                return way.roads[i];
            }
        }
        return BAD;
    }

    public int notice(int k) {
        if (k < 0) {
            return BAD;
        }
        Way way = finder.atHand();
        int passed = 0;
        for (int i = 0; i < way.length; i++) {
            int bridge = net.roads[way.roads[i]].bridge;
            if (bridge != NO_BRIDGE && passed++ == k) {
                return bridge;
            }
        }
        return BAD;
    }

    public int record(int k) {
        return k >= 0 && k < recordCount ? records[k] : NONE;
    }

    public int change(int road, boolean on) {
        if (!net.hasRoad(road)) {
            return BAD;
        }
        finder.forget();
        boolean before = net.roads[road].open;
        net.roads[road].open = on;
        return before ? 1 : 0;
    }

    public int count(int what) {
        switch (what) {
            case 0:
                return net.nodeCount;
            case 1:
                return net.roadCount;
            case 2:
                return net.bridgeCount;
            case 3:
                return net.journey.axleCount;
            case 4:
                return finder.atHand().length;
            case 5:
                return finder.foundCount;
            case 6:
                finder.lookThrough();
                return finder.wayCount;
            default:
                return BAD;
        }
    }

    private static boolean isWithin(long value, long least, long greatest) {
        return least <= value && value <= greatest;
    }

    private static boolean isSize(int value) {
        return isWithin(value, 1, GREATEST_SIZE);
    }

    /**
     * A whole number from 0 up, below 10^36. A rating's parts do not fit a long: its lower part stays below 10^24 (the
     * scale of six values is below 10^18, that of five gaps within 60 places 218790 at most), its upper part below
     * 10^31 (no effect is above 5 * 1000 * 1000). The base is decimal because the document asks for the lowest
     * eighteen digits.
     */
    private static final class Wide {
        private static final int LIMBS = 4;
        private static final int LIMBS_OF_LONG = 3;
        private static final long BASE = 1000000000L;

        private final long[] limbs = new long[LIMBS];

        /** The value is below the base. */
        void setTo(long value) {
            for (int i = 1; i < LIMBS; i++) {
                limbs[i] = 0;
            }
            limbs[0] = value;
        }

        void copyFrom(Wide other) {
            for (int i = 0; i < LIMBS; i++) {
                limbs[i] = other.limbs[i];
            }
        }

        int compareWith(Wide other) {
            for (int i = LIMBS - 1; i >= 0; i--) {
                if (limbs[i] != other.limbs[i]) {
                    return limbs[i] < other.limbs[i] ? -1 : 1;
                }
            }
            return 0;
        }

        void addProduct(long a, long b) {
            long rest = a;
            for (int i = 0; i < LIMBS_OF_LONG; i++) {
                addShifted(b, rest % BASE, i);
                rest /= BASE;
            }
        }

        private void addShifted(long b, long factor, int shift) {
            long rest = b;
            long carry = 0;
            for (int i = shift; i < LIMBS; i++) {
                long sum = limbs[i] + (rest % BASE) * factor + carry;
                limbs[i] = sum % BASE;
                carry = sum / BASE;
                rest /= BASE;
            }
        }

        /** The other one is not greater. */
        void subtract(Wide other) {
            long borrow = 0;
            for (int i = 0; i < LIMBS; i++) {
                long rest = limbs[i] - other.limbs[i] - borrow;
                borrow = rest < 0 ? 1 : 0;
                limbs[i] = rest + borrow * BASE;
            }
        }

        /** The factor is below the base. */
        void multiply(long factor) {
            long carry = 0;
            for (int i = 0; i < LIMBS; i++) {
                long product = limbs[i] * factor + carry;
                limbs[i] = product % BASE;
                carry = product / BASE;
            }
        }

        /** The divisor is below the base. */
        void divide(long divisor) {
            if (divisor < 1) {
                return;
            }
            long rest = 0;
            for (int i = LIMBS - 1; i >= 0; i--) {
                long part = rest * BASE + limbs[i];
                limbs[i] = part / divisor;
                rest = part % divisor;
            }
        }

        /** The divisor is below the base. */
        long remainder(long divisor) {
            if (divisor < 1) {
                return 0;
            }
            long rest = 0;
            for (int i = LIMBS - 1; i >= 0; i--) {
                rest = (rest * BASE + limbs[i]) % divisor;
            }
            return rest;
        }

        long lowestEighteenDigits() {
            return limbs[1] * BASE + limbs[0];
        }
    }

    /** A fraction in least terms; 0 / 1 at first. */
    private static final class Rating {
        private final Wide upper = new Wide();
        private final Wide lower = new Wide();

        Rating() {
            lower.setTo(1);
        }

        boolean isSameAs(Rating other) {
            return upper.compareWith(other.upper) == 0 && lower.compareWith(other.lower) == 0;
        }
    }

    private static final class Journey {
        private int height = 1;
        private int width = 1;
        private int axleCount;
        // How far each axle is behind the first one.
        private final long[] offsets = new long[MOST_AXLES];
        private final long[] loads = new long[MOST_AXLES];

        boolean canTakeAxle(long behind) {
            if (axleCount == 0) {
                return behind == 0;
            }
            return axleCount < MOST_AXLES && isWithin(behind, 1, GREATEST_BEHIND);
        }

        void addAxle(long behind, long load) {
            if (axleCount >= MOST_AXLES) {
                return;
            }
            offsets[axleCount] = axleCount == 0 ? 0 : offsets[axleCount - 1] + behind;
            loads[axleCount] = load;
            axleCount++;
        }
    }

    private static final class Bridge {
        private boolean slow;
        private int cornerCount;
        private final long[] at = new long[MOST_CORNERS];
        private final long[] above = new long[MOST_CORNERS];
        private final long[] below = new long[MOST_CORNERS];
        private final Rating kept = new Rating();
        private boolean tooWeak;
        private boolean wantsEscort;

        boolean canTakeCorner(long place) {
            if (cornerCount >= MOST_CORNERS || !isWithin(place, 0, LAST_PLACE)) {
                return false;
            }
            return cornerCount == 0 || place > at[cornerCount - 1];
        }

        void addCorner(long place, long upper, long lower) {
            if (cornerCount >= MOST_CORNERS) {
                return;
            }
            at[cornerCount] = place;
            above[cornerCount] = upper;
            below[cornerCount] = lower;
            cornerCount++;
        }

        /** The gap behind a corner; 1 behind the last one. */
        long gapBehind(int corner) {
            return corner >= 0 && corner + 1 < cornerCount ? at[corner + 1] - at[corner] : 1;
        }
    }

    /**
     * Finds ratings exactly. All effects on one bridge are told as whole numbers of one common part: the row's values
     * are whole when multiplied by valueScale, the shares of a straight line when multiplied by gapScale. So effects
     * are compared as whole numbers, and only the greatest one is brought to least terms.
     */
    private static final class Rater {
        private static final int MOST_STEPS = 200;

        private final Wide raising = new Wide();
        private final Wide lowering = new Wide();
        private final Rating anew = new Rating();
        // How much load, times gapScale, counts with each corner's value.
        private final long[] shares = new long[MOST_CORNERS];
        // What each corner adds to the scales: the scales are the products of these.
        private final long[] valueFactors = new long[MOST_CORNERS];
        private final long[] gapFactors = new long[MOST_CORNERS];
        private long valueScale;
        private long gapScale;

        void rate(Bridge bridge, Journey journey, Rating result) {
            result.upper.setTo(0);
            result.lower.setTo(1);
            findScales(bridge);
            for (int a = 0; a < journey.axleCount; a++) {
                for (int c = 0; c < bridge.cornerCount; c++) {
                    takeGreater(bridge, journey, bridge.at[c] + journey.offsets[a], -1, result.upper);
                    takeGreater(bridge, journey, bridge.at[c] - journey.offsets[a], 1, result.upper);
                }
            }
            reduce(result, valueFactors, bridge.cornerCount);
            reduce(result, gapFactors, bridge.cornerCount);
        }

        private void findScales(Bridge bridge) {
            valueScale = 1;
            gapScale = 1;
            for (int c = 0; c < bridge.cornerCount; c++) {
                valueFactors[c] = quotient(bridge.below[c], commonDivisor(bridge.below[c], valueScale));
                valueScale *= valueFactors[c];
                long gap = bridge.gapBehind(c);
                gapFactors[c] = quotient(gap, commonDivisor(gap, gapScale));
                gapScale *= gapFactors[c];
            }
        }

        private void takeGreater(Bridge bridge, Journey journey, long first, int side, Wide greatest) {
            for (int c = 0; c < MOST_CORNERS; c++) {
                shares[c] = 0;
            }
            for (int a = 0; a < journey.axleCount; a++) {
                shareOut(bridge, first + side * journey.offsets[a], journey.loads[a]);
            }
            raising.setTo(0);
            lowering.setTo(0);
            for (int c = 0; c < bridge.cornerCount; c++) {
                Wide sum = bridge.above[c] < 0 ? lowering : raising;
                sum.addProduct(shares[c] * Math.abs(bridge.above[c]), quotient(valueScale, bridge.below[c]));
            }
            if (raising.compareWith(lowering) < 0) {
                return;
            }
            raising.subtract(lowering);
            if (raising.compareWith(greatest) > 0) {
                greatest.copyFrom(raising);
            }
        }

        private void shareOut(Bridge bridge, long place, long load) {
            for (int c = 0; c < bridge.cornerCount; c++) {
                long beyond = place - bridge.at[c];
                if (beyond == 0) {
                    shares[c] += load * gapScale;
                } else if (c + 1 < bridge.cornerCount && beyond > 0 && place < bridge.at[c + 1]) {
                    long gap = bridge.gapBehind(c);
                    long part = load * quotient(gapScale, gap);
                    shares[c] += part * (gap - beyond);
                    shares[c + 1] += part * beyond;
                }
            }
        }

        /** Once a factor is freed of what it has in common with the upper part, no later step gives that back. */
        private static void reduce(Rating rating, long[] factors, int factorCount) {
            for (int i = 0; i < factorCount && i < factors.length; i++) {
                long common = commonDivisor(factors[i], rating.upper.remainder(factors[i]));
                rating.upper.divide(common);
                rating.lower.multiply(quotient(factors[i], common));
            }
        }

        boolean isStillRight(Bridge bridge, Journey journey) {
            rate(bridge, journey, anew);
            return anew.isSameAs(bridge.kept);
        }

        boolean isAbove(Rating rating, long above, long below) {
            raising.copyFrom(rating.upper);
            raising.multiply(below);
            lowering.copyFrom(rating.lower);
            lowering.multiply(above);
            return raising.compareWith(lowering) > 0;
        }

        private static long commonDivisor(long a, long b) {
            long greater = a;
            long lesser = b;
            for (int step = 0; step < MOST_STEPS && lesser != 0; step++) {
                long rest = greater % lesser;
                greater = lesser;
                lesser = rest;
            }
            return Math.max(1, greater);
        }

        private static long quotient(long whole, long part) {
            return part < 1 ? whole : whole / part;
        }
    }

    private static final class Road {
        private int endA;
        private int endB;
        private int minutes;
        private int height;
        private int width;
        private boolean open;
        private int bridge = NO_BRIDGE;
        // Bit r: the turn into road r does not pass.
        private int blockedTurns;
        private int barCount;
        private final int[] barFrom = new int[MOST_BARS];
        private final int[] barTo = new int[MOST_BARS];

        void lay(int a, int b, int drivingMinutes, int roadHeight, int roadWidth) {
            endA = a;
            endB = b;
            minutes = drivingMinutes;
            height = roadHeight;
            width = roadWidth;
            open = true;
        }

        int nodeAcross(int node) {
            if (node == endA) {
                return endB;
            }
            return node == endB ? endA : NO_NODE;
        }

        boolean meets(Road other) {
            return other.nodeAcross(endA) != NO_NODE || other.nodeAcross(endB) != NO_NODE;
        }

        void setTurn(int into, boolean passes) {
            int bit = 1 << into;
            blockedTurns = passes ? blockedTurns & ~bit : blockedTurns | bit;
        }

        boolean isTurnBlocked(int into) {
            return (blockedTurns >> into & 1) == 1;
        }

        void addBar(int from, int to) {
            if (barCount >= MOST_BARS) {
                return;
            }
            barFrom[barCount] = from;
            barTo[barCount] = to;
            barCount++;
        }

        /**
         * NEVER: barred all day. Each wait ends behind the end of a bar; whoever comes into the same bar twice has
         * gone round the clock, so there are no more waits than bars.
         */
        int earliestStart(int minute) {
            int start = minute;
            for (int waits = 0; waits <= barCount; waits++) {
                int wait = waitAt(start % DAY);
                if (wait == 0) {
                    return start;
                }
                start += wait;
            }
            return NEVER;
        }

        /** How long the bars hold on that hold at a minute; counted from a bar's beginning, midnight needs no care. */
        private int waitAt(int minuteOfDay) {
            int longest = 0;
            for (int i = 0; i < barCount; i++) {
                int lasting = (barTo[i] - barFrom[i] + DAY) % DAY;
                int since = (minuteOfDay - barFrom[i] + DAY) % DAY;
                longest = Math.max(longest, lasting - since + 1);
            }
            return longest;
        }
    }

    private static final class Net {
        private int nodeCount;
        private int roadCount;
        private int bridgeCount;
        private final Road[] roads = new Road[MOST_ROADS];
        private final Bridge[] bridges = new Bridge[MOST_BRIDGES];
        private final Journey journey = new Journey();
        private final Rater rater = new Rater();

        Net() {
            for (int r = 0; r < MOST_ROADS; r++) {
                roads[r] = new Road();
            }
            for (int b = 0; b < MOST_BRIDGES; b++) {
                bridges[b] = new Bridge();
            }
        }

        boolean hasNode(int node) {
            return node >= 0 && node < nodeCount;
        }

        boolean hasRoad(int road) {
            return road >= 0 && road < roadCount;
        }

        boolean hasBridge(int bridge) {
            return bridge >= 0 && bridge < bridgeCount;
        }

        void rateBridge(int bridge) {
            Bridge rated = bridges[bridge];
            rater.rate(rated, journey, rated.kept);
            rated.tooWeak = rater.isAbove(rated.kept, 1, 1);
            rated.wantsEscort = rater.isAbove(rated.kept, 3, 4);
        }

        void rateAllBridges() {
            for (int b = 0; b < bridgeCount; b++) {
                rateBridge(b);
            }
        }

        boolean isKeptRatingTrue(int bridge) {
            return rater.isStillRight(bridges[bridge], journey);
        }

        int whyNotBearing(int r) {
            Road road = roads[r];
            if (!road.open) {
                return CLOSED;
            }
            if (road.height < journey.height) {
                return TOO_LOW;
            }
            if (road.width < journey.width) {
                return TOO_NARROW;
            }
            return hasBridge(road.bridge) && bridges[road.bridge].tooWeak ? BRIDGE_TOO_WEAK : BEARS;
        }

        boolean wantsEscort(int r) {
            Road road = roads[r];
            return road.height - journey.height < ESCORT_MARGIN
                || road.width - journey.width < ESCORT_MARGIN
                || hasBridge(road.bridge) && bridges[road.bridge].wantsEscort;
        }

        int endOfRoad(int r, int start) {
            Road road = roads[r];
            boolean isSlow = hasBridge(road.bridge) && bridges[road.bridge].slow;
            return start + (isSlow ? 2 * road.minutes : road.minutes);
        }

        int endOfDrive(Way way, int beginning) {
            int minute = beginning;
            for (int i = 0; i < way.length; i++) {
                minute = endOfRoad(way.roads[i], roads[way.roads[i]].earliestStart(minute));
            }
            return minute;
        }

        /** Bit r: ways may use road r. */
        int usableRoads() {
            int usable = 0;
            for (int r = 0; r < roadCount; r++) {
                if (whyNotBearing(r) == BEARS && roads[r].earliestStart(0) != NEVER) {
                    usable |= 1 << r;
                }
            }
            return usable;
        }

        int bridgesOn(Way way) {
            int bridgesPassed = 0;
            for (int i = 0; i < way.length; i++) {
                if (roads[way.roads[i]].bridge != NO_BRIDGE) {
                    bridgesPassed++;
                }
            }
            return bridgesPassed;
        }
    }

    private static final class Way {
        private final int[] roads = new int[MOST_ROADS_OF_WAY];
        private final int[] starts = new int[MOST_ROADS_OF_WAY];
        private int length;
        private int end;
        private int bridges;
        // Bit r: road r is one of the way's.
        private int roadSet;

        boolean hasPlace(int k) {
            return k >= 0 && k < length;
        }

        void copyFrom(Way other) {
            for (int i = 0; i < MOST_ROADS_OF_WAY; i++) {
                roads[i] = other.roads[i];
                starts[i] = other.starts[i];
            }
            length = other.length;
            end = other.end;
            bridges = other.bridges;
            roadSet = other.roadSet;
        }

        boolean isBetterThan(Way other) {
            if (end != other.end) {
                return end < other.end;
            }
            if (bridges != other.bridges) {
                return bridges < other.bridges;
            }
            if (length != other.length) {
                return length < other.length;
            }
            for (int i = 0; i < length; i++) {
                if (roads[i] != other.roads[i]) {
                    return roads[i] < other.roads[i];
                }
            }
            return false;
        }

        void collectRoads() {
            roadSet = 0;
            for (int i = 0; i < length; i++) {
                roadSet |= 1 << roads[i];
            }
        }
    }

    /** Goes through all ways between two nodes, and keeps those that were found; the last of these is at hand. */
    private static final class Finder {
        private final Net net;
        private final Way[] found = new Way[MOST_FOUND];
        private final Way noWay = new Way();
        private final Way trial = new Way();
        private final Way best = new Way();
        private int foundCount;
        private boolean hasBegun;
        private int from;
        private int to;
        private int minute;
        private int mostShared;
        private int usable;
        private int visited;
        private int wayCount;
        private boolean hasBest;

        Finder(Net roadNet) {
            net = roadNet;
            for (int i = 0; i < MOST_FOUND; i++) {
                found[i] = new Way();
            }
        }

        void forget() {
            foundCount = 0;
        }

        /** A way without roads, if there is none. */
        Way atHand() {
            return foundCount > 0 ? found[foundCount - 1] : noWay;
        }

        void begin(int fromNode, int toNode, int beginning) {
            forget();
            hasBegun = true;
            from = fromNode;
            to = toNode;
            minute = beginning;
        }

        void limitSharing(long above, long below) {
            mostShared = below < 1 ? 0 : (int) (found[0].length * above / below);
        }

        /** After how many minutes the best way ends that was looked through last. */
        int keepBest() {
            if (!hasBest || foundCount >= MOST_FOUND) {
                return NO_WAY;
            }
            found[foundCount].copyFrom(best);
            foundCount++;
            return best.end - minute;
        }

        /** Counts all ways (none before a beginning), and finds the best one of those that may be found now. */
        void lookThrough() {
            usable = net.usableRoads();
            visited = 1 << from;
            wayCount = 0;
            hasBest = false;
            if (hasBegun) {
                goOn(from, minute, 0);
            }
        }

        private void goOn(int node, int now, int depth) {
            if (node == to) {
                consider(now, depth);
                return;
            }
            if (depth >= MOST_ROADS_OF_WAY) {
                return;
            }
            for (int r = 0; r < net.roadCount; r++) {
                if (canTake(r, node, depth)) {
                    take(r, node, now, depth);
                }
            }
        }

        private boolean canTake(int r, int node, int depth) {
            int next = net.roads[r].nodeAcross(node);
            if (next == NO_NODE || (visited >> next & 1) == 1 || (usable >> r & 1) == 0) {
                return false;
            }
            return depth == 0 || !net.roads[trial.roads[depth - 1]].isTurnBlocked(r);
        }

        private void take(int r, int node, int now, int depth) {
            int next = net.roads[r].nodeAcross(node);
            int start = net.roads[r].earliestStart(now);
            trial.roads[depth] = r;
            trial.starts[depth] = start;
            visited |= 1 << next;
            goOn(next, net.endOfRoad(r, start), depth + 1);
            visited &= ~(1 << next);
        }

        private void consider(int end, int length) {
            wayCount++;
            trial.length = length;
            trial.end = end;
            trial.bridges = net.bridgesOn(trial);
            trial.collectRoads();
            if (isAllowed() && (!hasBest || trial.isBetterThan(best))) {
                best.copyFrom(trial);
                hasBest = true;
            }
        }

        private boolean isAllowed() {
            for (int i = 0; i < foundCount; i++) {
                // Ways between the same nodes that have the same roads have them in the same order.
                if (trial.roadSet == found[i].roadSet) {
                    return false;
                }
            }
            return foundCount == 0 || Integer.bitCount(trial.roadSet & found[0].roadSet) <= mostShared;
        }
    }
}
