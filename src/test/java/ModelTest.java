import java.util.ArrayList;
import java.util.List;
import java.util.Random;

/** Long runs of calls, always the same ones, on the class and on the model: every answer must agree. */
public final class ModelTest {
    private static final int RUNS = 120;
    private static final int CALLS = 512;
    private static final int BRIDGES = 2000;
    private static final Check CHECK = new Check();

    private final Random random;
    private final HeavyRoutes real = new HeavyRoutes();
    private final Model model = new Model();
    private final List<String> calls = new ArrayList<>();
    // How large the numbers are that this run likes: small ones make ways that end at the same minute.
    private final int minutesRange;
    private final int loadRange;
    private final int belowLeast;

    private ModelTest(long seed) {
        random = new Random(seed);
        minutesRange = random.nextBoolean() ? 5 : 600;
        loadRange = random.nextBoolean() ? 4 : 1001;
        belowLeast = random.nextBoolean() ? 1 : 900;
    }

    public static void main(String[] args) {
        for (int run = 0; run < RUNS && CHECK.isClean(); run++) {
            ModelTest test = new ModelTest(run);
            test.lay();
            while (test.calls.size() < CALLS && CHECK.isClean()) {
                test.callOne();
            }
            if (!CHECK.isClean()) {
                System.out.println("run " + run + ", its calls: " + test.calls);
            }
        }
        for (int bridge = 0; bridge < BRIDGES && CHECK.isClean(); bridge++) {
            new ModelTest(bridge).rateOne();
        }
        CHECK.end("ModelTest");
    }

    private int below(int n) {
        return random.nextInt(n);
    }

    private boolean chance(int percent) {
        return below(100) < percent;
    }

    /** Mostly 0 .. n - 1, now and then one of the numbers round that, or far off. */
    private int around(int n) {
        if (chance(96)) {
            return below(Math.max(1, n));
        }
        int[] odd = {-1, n, n + 1, Integer.MIN_VALUE, Integer.MAX_VALUE};
        return odd[below(odd.length)];
    }

    private void due(String call, long got, long want) {
        calls.add(call);
        CHECK.due(call, got, want);
    }

    private void due(String call, boolean got, boolean want) {
        due(call, got ? 1 : 0, want ? 1 : 0);
    }

    private void lay() {
        int nodes = 2 + below(6);
        for (int i = 0; i < nodes; i++) {
            due("node()", real.node(), model.node());
        }
        int roads = below(13);
        for (int i = 0; i < roads; i++) {
            layRoad();
        }
        int bridges = below(7);
        for (int i = 0; i < bridges; i++) {
            layBridge();
        }
        int corners = below(36);
        for (int i = 0; i < corners; i++) {
            addCorner();
        }
        int axles = below(6);
        for (int i = 0; i < axles; i++) {
            addAxle();
        }
    }

    private void layRoad() {
        int nodes = model.count(0);
        int a = around(nodes);
        int b = around(nodes);
        int minutes = chance(97) ? 1 + below(minutesRange) : around(602);
        int height = chance(97) ? 400 + below(200) : around(10001);
        int width = chance(97) ? 400 + below(200) : around(10001);
        due("road(" + a + ", " + b + ", " + minutes + ", " + height + ", " + width + ")",
            real.road(a, b, minutes, height, width), model.road(a, b, minutes, height, width));
    }

    private void layBridge() {
        int road = around(model.count(1));
        due("bridge(" + road + ")", real.bridge(road), model.bridge(road));
    }

    private void addCorner() {
        int bridge = around(model.count(2));
        long at = around(61);
        long above = chance(50) ? below(3) - 1 : below(2003) - 1001;
        long lower = chance(50) ? belowLeast + below(1001 - belowLeast) : around(1001);
        due("row(" + bridge + ", " + at + ", " + above + ", " + lower + ")",
            real.row(bridge, at, above, lower), model.row(bridge, at, above, lower));
    }

    private void addAxle() {
        long behind = model.count(3) == 0 ? (chance(95) ? 0 : 1) : around(31);
        long load = around(loadRange);
        due("axle(" + behind + ", " + load + ")", real.axle(behind, load), model.axle(behind, load));
    }

    /** A bridge of six corners under five axles: ratings of many digits. */
    private void rateOne() {
        due("nodes", real.node() + real.node(), model.node() + model.node());
        due("road", real.road(0, 1, 1, 1, 1), model.road(0, 1, 1, 1, 1));
        due("bridge", real.bridge(0), model.bridge(0));
        for (int corner = 0; corner < 6; corner++) {
            long at = 10 * corner + below(10);
            long above = below(1101) - 100 * below(11);
            long lower = belowLeast + below(1001 - belowLeast);
            due("row", real.row(0, at, above, lower), model.row(0, at, above, lower));
        }
        for (int axle = 0; axle < 5; axle++) {
            addAxle();
            due("upper", real.rating(0, 0), model.rating(0, 0));
            due("lower", real.rating(0, 1), model.rating(0, 1));
            due("bars", real.bars(0, 1), model.bars(0, 1));
        }
    }

    private void callOne() {
        int which = below(100);
        if (which < 14) {
            callChanging(which);
        } else if (which < 30) {
            callRun();
        } else if (which < 45) {
            callAlternate();
        } else {
            callAsking(which % 9);
        }
    }

    private void callChanging(int which) {
        int road = around(model.count(1));
        int other = around(model.count(1));
        int bridge = around(model.count(2));
        boolean on = chance(60);
        switch (which) {
            case 0 -> layRoad();
            case 1 -> layBridge();
            case 2 -> addCorner();
            case 3 -> {
                if (chance(20)) {
                    addAxle();
                }
            }
            case 4, 5 -> {
                int height = chance(90) ? 350 + below(150) : around(10001);
                int width = chance(90) ? 350 + below(150) : around(10001);
                int length = 1 + around(200);
                due("size(" + height + ", " + width + ", " + length + ")",
                    real.size(height, width, length), model.size(height, width, length));
            }
            case 6, 7 -> due("turn(" + road + ", " + other + ", " + on + ")",
                real.turn(road, other, on), model.turn(road, other, on));
            case 8, 9 -> {
                int from = around(1440);
                int to = chance(50) ? around(1440) : Math.floorMod(from + below(300), 1440);
                due("hours(" + road + ", " + from + ", " + to + ")",
                    real.hours(road, from, to), model.hours(road, from, to));
            }
            case 10, 11 -> due("slow(" + bridge + ", " + on + ")", real.slow(bridge, on), model.slow(bridge, on));
            case 12 -> due("change(" + road + ", " + on + ")", real.change(road, on), model.change(road, on));
            default -> due("node()", real.node(), model.node());
        }
    }

    private void callRun() {
        int from = around(model.count(0));
        int to = around(model.count(0));
        int minute = chance(50) ? around(10001) : around(1440);
        due("run(" + from + ", " + to + ", " + minute + ")", real.run(from, to, minute), model.run(from, to, minute));
    }

    private void callAlternate() {
        int lower = chance(60) ? 1 + below(7) : around(102);
        int upper = chance(95) ? below(Math.max(1, Math.min(lower, 101)) + 1) : around(102);
        due("alternate(" + upper + ", " + lower + ")", real.alternate(upper, lower), model.alternate(upper, lower));
    }

    private void callAsking(int which) {
        int k = around(7);
        int bridge = around(model.count(2));
        switch (which) {
            case 0 -> {
                int part = around(2);
                due("rating(" + bridge + ", " + part + ")", real.rating(bridge, part), model.rating(bridge, part));
                due("kept(" + bridge + ")", real.kept(bridge), model.kept(bridge));
            }
            case 1 -> due("road2(" + k + ")", real.road2(k), model.road2(k));
            case 2 -> due("begun(" + k + ")", real.begun(k), model.begun(k));
            case 3 -> {
                int what = around(2);
                due("bars(" + k + ", " + what + ")", real.bars(k, what), model.bars(k, what));
            }
            case 4 -> {
                int n = 1 + around(20);
                int gap = around(601);
                due("convoy(" + n + ", " + gap + ")", real.convoy(n, gap), model.convoy(n, gap));
            }
            case 5 -> due("escort(" + k + ")", real.escort(k), model.escort(k));
            case 6 -> due("notice(" + k + ")", real.notice(k), model.notice(k));
            case 7 -> {
                int run = around(52);
                due("record(" + run + ")", real.record(run), model.record(run));
            }
            default -> due("count(" + k + ")", real.count(k), model.count(k));
        }
    }
}
