import java.util.ArrayList;
import java.util.List;

/**
 * Asks an object for all that it tells, drives over its net, and at last fills it to its limits. So it shows also what
 * no single call tells: two objects whose probes are alike hold the same. It uses the object up: with some 300 calls.
 */
final class Probe {
    private final HeavyRoutes x;
    private final List<String> answers = new ArrayList<>();

    private Probe(HeavyRoutes x) {
        this.x = x;
    }

    static List<String> of(HeavyRoutes x) {
        Probe probe = new Probe(x);
        probe.askForTheWay();
        probe.askForTheNet();
        probe.lookFurther();
        probe.drive();
        probe.fill();
        probe.askForTheNet();
        return probe.answers;
    }

    private void tell(String call, long answer) {
        answers.add(call + " = " + answer);
    }

    private void tell(String call, boolean answer) {
        answers.add(call + " = " + answer);
    }

    private void askForTheWay() {
        for (int k = 0; k <= 6; k++) {
            tell("road2(" + k + ")", x.road2(k));
            tell("begun(" + k + ")", x.begun(k));
            tell("escort(" + k + ")", x.escort(k));
            tell("notice(" + k + ")", x.notice(k));
        }
        tell("convoy(3, 100)", x.convoy(3, 100));
    }

    private void askForTheNet() {
        for (int what = 0; what <= 6; what++) {
            tell("count(" + what + ")", x.count(what));
        }
        for (int k = 0; k < 12; k++) {
            tell("bars(" + k + ", 0)", x.bars(k, 0));
            tell("bars(" + k + ", 1)", x.bars(k, 1));
        }
        for (int bridge = 0; bridge < 6; bridge++) {
            tell("rating(" + bridge + ", 0)", x.rating(bridge, 0));
            tell("rating(" + bridge + ", 1)", x.rating(bridge, 1));
        }
        for (int k = 0; k < 3; k++) {
            tell("record(" + k + ")", x.record(k));
        }
        tell("record(49)", x.record(49));
    }

    private void lookFurther() {
        tell("alternate(1, 2)", x.alternate(1, 2));
        tell("road2(0)", x.road2(0));
        tell("alternate(1, 1)", x.alternate(1, 1));
        tell("begun(1)", x.begun(1));
        tell("count(5)", x.count(5));
    }

    private void drive() {
        int last = x.count(0) - 1;
        for (int node = 0; node <= last; node++) {
            tell("run(0, " + node + ", 0)", x.run(0, node, 0));
            tell("run(" + last + ", " + node + ", 1439)", x.run(last, node, 1439));
        }
        tell("record(4)", x.record(4));
    }

    private void fill() {
        for (int road = 0; road < 12; road++) {
            tell("change(" + road + ", true)", x.change(road, true));
            for (int i = 0; i < 4; i++) {
                tell("hours(" + road + ", " + i + ", " + i + ")", x.hours(road, i, i));
            }
        }
        for (int bridge = 0; bridge < 6; bridge++) {
            tell("slow(" + bridge + ", true)", x.slow(bridge, true));
            for (int at = 54; at <= 60; at++) {
                tell("row(" + bridge + ", " + at + ", 1, 1000)", x.row(bridge, at, 1, 1000));
            }
        }
        for (int i = 0; i < 6; i++) {
            tell("axle(2, 1)", x.axle(2, 1));
            tell("axle(0, 1)", x.axle(0, 1));
        }
        for (int i = 0; i < 8; i++) {
            tell("node()", x.node());
        }
        for (int i = 0; i < 13; i++) {
            tell("road(0, 1, 1, 301, 301)", x.road(0, 1, 1, 301, 301));
        }
        for (int road = 0; road < 12; road++) {
            tell("bridge(" + road + ")", x.bridge(road));
        }
    }
}
