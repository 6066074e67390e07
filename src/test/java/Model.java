import java.math.BigInteger;
import java.util.ArrayList;
import java.util.Comparator;
import java.util.HashSet;
import java.util.List;
import java.util.Set;

/** The document a second time, in the plainest form that the whole Java library allows: all is found anew each time. */
final class Model {
    private static final int BAD = -1;
    private static final int NONE = -2;

    private record Fraction(BigInteger upper, BigInteger lower) implements Comparable<Fraction> {
        static Fraction of(long upper, long lower) {
            return new Fraction(BigInteger.valueOf(upper), BigInteger.valueOf(lower)).inLeastTerms();
        }

        Fraction inLeastTerms() {
            BigInteger common = upper.gcd(lower);
            return new Fraction(upper.divide(common), lower.divide(common));
        }

        Fraction plus(Fraction o) {
            return new Fraction(upper.multiply(o.lower).add(o.upper.multiply(lower)), lower.multiply(o.lower)).inLeastTerms();
        }

        Fraction times(Fraction o) {
            return new Fraction(upper.multiply(o.upper), lower.multiply(o.lower)).inLeastTerms();
        }

        @Override
        public int compareTo(Fraction o) {
            return upper.multiply(o.lower).compareTo(o.upper.multiply(lower));
        }
    }

    private record Corner(long at, Fraction value) { }

    private record Axle(long behindFirst, long load) { }

    private record Hours(int from, int to) { }

    private record Way(List<Integer> roads, List<Integer> begun, int end, long bridges) { }

    private static final class Road {
        int a;
        int b;
        int minutes;
        int height;
        int width;
        boolean open = true;
        int bridge = -1;
        final List<Hours> hours = new ArrayList<>();
        final Set<Integer> noTurnInto = new HashSet<>();
    }

    private int nodes = 0;
    private final List<Road> roads = new ArrayList<>();
    private final List<List<Corner>> rows = new ArrayList<>();
    private final List<Boolean> slow = new ArrayList<>();
    private final List<Axle> axles = new ArrayList<>();
    private int height = 1;
    private int width = 1;
    private final List<Way> found = new ArrayList<>();
    private final List<Integer> records = new ArrayList<>();
    private int from = -1;
    private int to = -1;
    private int minute = -1;

    int node() {
        return nodes == 7 ? BAD : nodes++;
    }

    int road(int a, int b, int minutes, int roadHeight, int roadWidth) {
        boolean ends = a >= 0 && a < nodes && b >= 0 && b < nodes && a != b;
        boolean numbers = minutes >= 1 && minutes <= 600 && roadHeight >= 1 && roadHeight <= 9999
            && roadWidth >= 1 && roadWidth <= 9999;
        if (!ends || !numbers || roads.size() == 12) {
            return BAD;
        }
        Road r = new Road();
        r.a = a;
        r.b = b;
        r.minutes = minutes;
        r.height = roadHeight;
        r.width = roadWidth;
        roads.add(r);
        found.clear();
        return roads.size() - 1;
    }

    int bridge(int road) {
        if (!isRoad(road) || roads.get(road).bridge >= 0 || rows.size() == 6) {
            return BAD;
        }
        roads.get(road).bridge = rows.size();
        rows.add(new ArrayList<>());
        slow.add(false);
        found.clear();
        return rows.size() - 1;
    }

    boolean row(int bridge, long at, long above, long below) {
        if (!isBridge(bridge) || at < 0 || at > 60 || above < -1000 || above > 1000 || below < 1 || below > 1000) {
            return false;
        }
        List<Corner> row = rows.get(bridge);
        if (row.size() == 6 || !row.isEmpty() && row.get(row.size() - 1).at >= at) {
            return false;
        }
        row.add(new Corner(at, Fraction.of(above, below)));
        found.clear();
        return true;
    }

    boolean axle(long behind, long load) {
        boolean first = axles.isEmpty();
        if (load < 0 || load > 1000 || axles.size() == 5 || first && behind != 0) {
            return false;
        }
        if (!first && (behind < 1 || behind > 30)) {
            return false;
        }
        axles.add(new Axle(first ? 0 : axles.get(axles.size() - 1).behindFirst + behind, load));
        found.clear();
        return true;
    }

    boolean size(int h, int w, int length) {
        if (h < 1 || h > 9999 || w < 1 || w > 9999 || length < 1 || length > 200) {
            return false;
        }
        height = h;
        width = w;
        found.clear();
        return true;
    }

    boolean turn(int roadA, int roadB, boolean passes) {
        if (!isRoad(roadA) || !isRoad(roadB) || roadA == roadB) {
            return false;
        }
        Road one = roads.get(roadA);
        Road two = roads.get(roadB);
        if (one.a != two.a && one.a != two.b && one.b != two.a && one.b != two.b) {
            return false;
        }
        if (passes) {
            one.noTurnInto.remove(roadB);
        } else {
            one.noTurnInto.add(roadB);
        }
        found.clear();
        return true;
    }

    boolean hours(int road, int first, int last) {
        if (!isRoad(road) || first < 0 || first > 1439 || last < 0 || last > 1439 || roads.get(road).hours.size() == 3) {
            return false;
        }
        roads.get(road).hours.add(new Hours(first, last));
        found.clear();
        return true;
    }

    long rating(int bridge, int part) {
        if (!isBridge(bridge) || part < 0 || part > 1) {
            return BAD;
        }
        Fraction rating = ratingOf(bridge);
        return (part == 0 ? rating.upper : rating.lower).mod(BigInteger.TEN.pow(18)).longValueExact();
    }

    boolean kept(int bridge) {
        return isBridge(bridge);
    }

    int run(int a, int b, int begin) {
        if (a < 0 || a >= nodes || b < 0 || b >= nodes || a == b || begin < 0 || begin > 10000) {
            return NONE;
        }
        from = a;
        to = b;
        minute = begin;
        found.clear();
        List<Way> ways = waysInOrder();
        if (!ways.isEmpty()) {
            found.add(ways.get(0));
        }
        int answer = ways.isEmpty() ? -1 : ways.get(0).end - minute;
        records.add(answer);
        return answer;
    }

    int road2(int k) {
        return pick(roadsAtHand(), k);
    }

    int begun(int k) {
        return found.isEmpty() ? BAD : pick(found.get(found.size() - 1).begun, k);
    }

    int bars(int k, int what) {
        List<Integer> which = new ArrayList<>();
        List<Integer> why = new ArrayList<>();
        for (int r = 0; r < roads.size(); r++) {
            if (whyBars(roads.get(r)) != 0) {
                which.add(r);
                why.add(whyBars(roads.get(r)));
            }
        }
        return what == 0 ? pick(which, k) : what == 1 ? pick(why, k) : BAD;
    }

    int alternate(long above, long below) {
        if (above < 0 || above > below || below > 100 || below == 0 || found.isEmpty() || found.size() == 5) {
            return NONE;
        }
        Way first = found.get(0);
        for (Way way : waysInOrder()) {
            Set<Integer> shared = new HashSet<>(way.roads);
            shared.retainAll(first.roads);
            boolean isNew = found.stream().noneMatch(f -> f.roads.equals(way.roads));
            if (isNew && shared.size() * below <= first.roads.size() * above) {
                found.add(way);
                return way.end - minute;
            }
        }
        return -1;
    }

    int slow(int bridge, boolean on) {
        if (!isBridge(bridge)) {
            return BAD;
        }
        found.clear();
        return slow.set(bridge, on) ? 1 : 0;
    }

    int convoy(int n, int gap) {
        if (n < 1 || n > 20 || gap < 0 || gap > 600 || found.isEmpty()) {
            return BAD;
        }
        int latest = 0;
        for (int i = 0; i < n; i++) {
            int now = minute + i * gap;
            for (int r : roadsAtHand()) {
                now = start(roads.get(r), now) + drive(roads.get(r));
            }
            latest = Math.max(latest, now - minute);
        }
        return latest;
    }

    int escort(int k) {
        List<Integer> which = new ArrayList<>();
        for (int r : roadsAtHand()) {
            Road road = roads.get(r);
            boolean heavy = road.bridge >= 0 && ratingOf(road.bridge).compareTo(Fraction.of(3, 4)) > 0;
            if (heavy || road.height < height + 50 || road.width < width + 50) {
                which.add(r);
            }
        }
        return pick(which, k);
    }

    int notice(int k) {
        List<Integer> which = new ArrayList<>();
        for (int r : roadsAtHand()) {
            if (roads.get(r).bridge >= 0) {
                which.add(roads.get(r).bridge);
            }
        }
        return pick(which, k);
    }

    int record(int k) {
        return k < 0 || k >= 50 || k >= records.size() ? NONE : records.get(k);
    }

    int change(int road, boolean on) {
        if (!isRoad(road)) {
            return BAD;
        }
        boolean before = roads.get(road).open;
        roads.get(road).open = on;
        found.clear();
        return before ? 1 : 0;
    }

    int count(int what) {
        int ways = what == 6 && from >= 0 ? waysInOrder().size() : 0;
        int[] all = {nodes, roads.size(), rows.size(), axles.size(), roadsAtHand().size(), found.size(), ways};
        return what < 0 || what > 6 ? BAD : all[what];
    }

    private boolean isRoad(int road) {
        return road >= 0 && road < roads.size();
    }

    private boolean isBridge(int bridge) {
        return bridge >= 0 && bridge < rows.size();
    }

    private static int pick(List<Integer> list, int k) {
        return k >= 0 && k < list.size() ? list.get(k) : BAD;
    }

    private List<Integer> roadsAtHand() {
        return found.isEmpty() ? List.of() : found.get(found.size() - 1).roads;
    }

    private int whyBars(Road road) {
        if (!road.open) {
            return 1;
        }
        if (road.height < height) {
            return 2;
        }
        if (road.width < width) {
            return 3;
        }
        return road.bridge >= 0 && ratingOf(road.bridge).compareTo(Fraction.of(1, 1)) > 0 ? 4 : 0;
    }

    private Fraction ratingOf(int bridge) {
        Fraction greatest = Fraction.of(0, 1);
        for (Corner corner : rows.get(bridge)) {
            for (Axle axle : axles) {
                for (int side = -1; side <= 1; side += 2) {
                    Fraction effect = effect(rows.get(bridge), corner.at - side * axle.behindFirst, side);
                    greatest = effect.compareTo(greatest) > 0 ? effect : greatest;
                }
            }
        }
        return greatest;
    }

    private Fraction effect(List<Corner> row, long first, int side) {
        Fraction sum = Fraction.of(0, 1);
        for (Axle axle : axles) {
            sum = sum.plus(valueAt(row, first + side * axle.behindFirst).times(Fraction.of(axle.load, 1)));
        }
        return sum;
    }

    private static Fraction valueAt(List<Corner> row, long place) {
        for (Corner corner : row) {
            if (corner.at == place) {
                return corner.value;
            }
        }
        for (int i = 1; i < row.size(); i++) {
            Corner p = row.get(i - 1);
            Corner q = row.get(i);
            if (p.at < place && place < q.at) {
                Fraction rise = q.value.plus(p.value.times(Fraction.of(-1, 1)));
                return p.value.plus(rise.times(Fraction.of(place - p.at, q.at - p.at)));
            }
        }
        return Fraction.of(0, 1);
    }

    private static boolean isBarred(Road road, int time) {
        int m = time % 1440;
        for (Hours h : road.hours) {
            for (int i = h.from; ; i = (i + 1) % 1440) {
                if (i == m) {
                    return true;
                }
                if (i == h.to) {
                    break;
                }
            }
        }
        return false;
    }

    /** -1: barred all day. */
    private static int start(Road road, int time) {
        for (int t = time; t < time + 1440; t++) {
            if (!isBarred(road, t)) {
                return t;
            }
        }
        return -1;
    }

    private int drive(Road road) {
        return road.bridge >= 0 && slow.get(road.bridge) ? 2 * road.minutes : road.minutes;
    }

    private List<Way> waysInOrder() {
        List<List<Integer>> sequences = new ArrayList<>();
        collect(from, new ArrayList<>(List.of(from)), new ArrayList<>(), sequences);
        List<Way> ways = new ArrayList<>();
        for (List<Integer> sequence : sequences) {
            List<Integer> begun = new ArrayList<>();
            int now = minute;
            for (int r : sequence) {
                begun.add(start(roads.get(r), now));
                now = begun.get(begun.size() - 1) + drive(roads.get(r));
            }
            long bridges = sequence.stream().filter(r -> roads.get(r).bridge >= 0).count();
            ways.add(new Way(sequence, begun, now, bridges));
        }
        ways.sort(Comparator.comparingInt((Way w) -> w.end).thenComparingLong(w -> w.bridges)
            .thenComparingInt(w -> w.roads.size()).thenComparing(Model::byNumbers));
        return ways;
    }

    private static int byNumbers(Way one, Way two) {
        for (int i = 0; i < one.roads.size(); i++) {
            if (!one.roads.get(i).equals(two.roads.get(i))) {
                return Integer.compare(one.roads.get(i), two.roads.get(i));
            }
        }
        return 0;
    }

    private void collect(int at, List<Integer> visited, List<Integer> taken, List<List<Integer>> into) {
        if (at == to) {
            into.add(new ArrayList<>(taken));
            return;
        }
        for (int r = roads.size() - 1; r >= 0; r--) {
            Road road = roads.get(r);
            int next = road.a == at ? road.b : road.b == at ? road.a : -1;
            boolean turns = taken.isEmpty() || !roads.get(taken.get(taken.size() - 1)).noTurnInto.contains(r);
            if (next >= 0 && !visited.contains(next) && turns && whyBars(road) == 0 && start(road, 0) >= 0) {
                visited.add(next);
                taken.add(r);
                collect(next, visited, taken, into);
                taken.remove(taken.size() - 1);
                visited.remove(visited.size() - 1);
            }
        }
    }
}
