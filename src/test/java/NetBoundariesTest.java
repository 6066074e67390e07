import java.util.function.Supplier;

/** Boundary cases of what is told of the net and the journey: promises 1 to 9, 17 and 22. */
public final class NetBoundariesTest extends Boundaries {
    // A row that is 1 at the first place and at the last one, and 0 elsewhere.
    private static final long[][] BOTH_ENDS = {{0, 1, 1}, {1, 0, 1}, {59, 0, 1}, {60, 1, 1}};

    public static void main(String[] args) {
        runAll(NetBoundariesTest.class);
    }

    @Sentence(promise = 1, words = "No nodes, roads; no axles.")
    static void aNewObjectCountsNothing() {
        for (int what = 0; what <= 6; what++) {
            due("count " + what, new HeavyRoutes().count(what), 0);
        }
    }

    @Sentence(promise = 1, words = "No nodes, roads; no axles.")
    static void aNewObjectHasNothingToTell() {
        for (int k = -1; k <= 1; k++) {
            int number = k;
            dueRefused("road2 " + k, HeavyRoutes::new, x -> x.road2(number), BAD);
            dueRefused("begun " + k, HeavyRoutes::new, x -> x.begun(number), BAD);
            dueRefused("bars " + k, HeavyRoutes::new, x -> x.bars(number, 0), BAD);
            dueRefused("escort " + k, HeavyRoutes::new, x -> x.escort(number), BAD);
            dueRefused("notice " + k, HeavyRoutes::new, x -> x.notice(number), BAD);
            dueRefused("record " + k, HeavyRoutes::new, x -> x.record(number), NONE);
            dueRefused("rating " + k, HeavyRoutes::new, x -> x.rating(number, 0), BAD);
            dueRefused("kept " + k, HeavyRoutes::new, x -> bit(x.kept(number)), 0);
        }
        dueRefused("convoy", HeavyRoutes::new, x -> x.convoy(1, 0), BAD);
        dueRefused("alternate", HeavyRoutes::new, x -> x.alternate(1, 1), NONE);
    }

    @Sentence(promise = 1, words = "No nodes, roads; no axles.")
    static void aNewObjectHasNothingToChange() {
        dueRefused("road", HeavyRoutes::new, x -> x.road(0, 1, 1, 1, 1), BAD);
        dueRefused("bridge", HeavyRoutes::new, x -> x.bridge(0), BAD);
        dueRefused("row", HeavyRoutes::new, x -> bit(x.row(0, 0, 0, 1)), 0);
        dueRefused("second axle", HeavyRoutes::new, x -> bit(x.axle(1, 0)), 0);
        dueRefused("turn", HeavyRoutes::new, x -> bit(x.turn(0, 1, false)), 0);
        dueRefused("hours", HeavyRoutes::new, x -> bit(x.hours(0, 0, 0)), 0);
        dueRefused("run", HeavyRoutes::new, x -> x.run(0, 1, 0), NONE);
        dueRefused("slow", HeavyRoutes::new, x -> x.slow(0, true), BAD);
        dueRefused("change", HeavyRoutes::new, x -> x.change(0, true), BAD);
    }

    @Sentence(promise = 2, words = "One more node: which one.")
    static void nodesAreNumberedFrom0() {
        HeavyRoutes x = new HeavyRoutes();
        for (int i = 0; i < 7; i++) {
            due("node", x.node(), i);
            due("nodes", x.count(0), i + 1);
        }
    }

    @Sentence(promise = 2, words = "BAD: there are 7.")
    static void thereAre7Nodes() {
        due("the seventh", withNodes(6).node(), 6);
        dueRefused("the eighth", () -> withNodes(7), HeavyRoutes::node, BAD);
        dueRefused("one more in a full net", Boundaries::full, HeavyRoutes::node, BAD);
        due("a road to the seventh", withNodes(7).road(0, 6, 1, 1, 1), 0);
        due("a road to the eighth", withNodes(7).road(0, 7, 1, 1, 1), BAD);
    }

    @Sentence(promise = 3, words = "One more road, open: which one.")
    static void roadsAreNumberedFrom0AndOpen() {
        HeavyRoutes x = withNodes(2);
        for (int i = 0; i < 12; i++) {
            due("road", x.road(i % 2, 1 - i % 2, 1, 1, 1), i);
            due("roads", x.count(1), i + 1);
            due("no road is closed", x.bars(0, 0), BAD);
            due("it was open", x.change(i, true), 1);
        }
    }

    @Sentence(promise = 3, words = "BAD: none such")
    static void aRoadsNodes() {
        dueInts("a", Boundaries::rich, 0, 3, (x, a) -> x.road(a, a == 1 ? 2 : 1, 1, 1, 1), 9, 9, BAD);
        dueInts("b", Boundaries::rich, 0, 3, (x, b) -> x.road(b == 1 ? 2 : 1, b, 1, 1, 1), 9, 9, BAD);
        dueRefused("without nodes", HeavyRoutes::new, x -> x.road(0, 1, 1, 1, 1), BAD);
        dueRefused("with one node", () -> withNodes(1), x -> x.road(0, 1, 1, 1, 1), BAD);
        due("with two nodes", withNodes(2).road(0, 1, 1, 1, 1), 0);
    }

    @Sentence(promise = 3, words = "BAD: none such")
    static void aRoadsMinutes() {
        dueInts("minutes", Boundaries::rich, 1, 600, (x, minutes) -> x.road(0, 1, minutes, 1, 1), 9, 9, BAD);
        for (int minutes : new int[] {1, 600}) {
            HeavyRoutes x = withNodes(2);
            x.road(0, 1, minutes, 1, 1);
            due("minutes driven", x.run(0, 1, 0), minutes);
        }
    }

    @Sentence(promise = 3, words = "BAD: none such")
    static void aRoadsHeight() {
        dueInts("height", Boundaries::rich, 1, 9999, (x, height) -> x.road(0, 1, 1, height, 1), 9, 9, BAD);
        HeavyRoutes x = withNodes(2);
        x.road(0, 1, 1, 9999, 1);
        x.size(9999, 1, 1);
        due("the highest journey on the highest road", x.bars(0, 0), BAD);
        x.road(0, 1, 1, 9998, 1);
        due("and on a road that is lower", x.bars(0, 0), 1);
    }

    @Sentence(promise = 3, words = "BAD: none such")
    static void aRoadsWidth() {
        dueInts("width", Boundaries::rich, 1, 9999, (x, width) -> x.road(0, 1, 1, 1, width), 9, 9, BAD);
        HeavyRoutes x = withNodes(2);
        x.road(0, 1, 1, 1, 9999);
        x.size(1, 9999, 1);
        due("the widest journey on the widest road", x.bars(0, 0), BAD);
        x.road(0, 1, 1, 1, 9998);
        due("and on a road that is narrower", x.bars(0, 0), 1);
    }

    @Sentence(promise = 3, words = "a is b")
    static void aRoadHasTwoEnds() {
        for (int i = 0; i < 4; i++) {
            int node = i;
            dueRefused("from a node to itself", Boundaries::rich, x -> x.road(node, node, 1, 1, 1), BAD);
        }
    }

    @Sentence(promise = 3, words = "there are 12")
    static void thereAre12Roads() {
        due("the twelfth", withRoads(11).road(0, 1, 1, 1, 1), 11);
        dueRefused("the thirteenth", () -> withRoads(12), x -> x.road(0, 1, 1, 1, 1), BAD);
        dueRefused("one more in a full net", Boundaries::full, x -> x.road(0, 1, 1, 1, 1), BAD);
        due("a bridge on the twelfth", withRoads(12).bridge(11), 0);
        due("a bridge on the thirteenth", withRoads(12).bridge(12), BAD);
    }

    private static void dueGone(String what, Call call, long answer) {
        HeavyRoutes x = rich();
        due("two ways are found", x.count(5), 2);
        due(what, call.on(x), answer);
        due(what + ": ways found", x.count(5), 0);
        due(what + ": roads at hand", x.count(4), 0);
        due(what + ": road2", x.road2(0), BAD);
        due(what + ": begun", x.begun(0), BAD);
        due(what + ": alternate", x.alternate(1, 1), NONE);
        due(what + ": convoy", x.convoy(1, 0), BAD);
        due(what + ": escort", x.escort(0), BAD);
        due(what + ": notice", x.notice(0), BAD);
        due(what + ": record stays", x.record(1), 20);
    }

    @Sentence(promise = 3, words = "What was found is gone")
    static void whatWasFoundIsGoneWithRoad() {
        dueGone("road", x -> x.road(0, 1, 600, 1, 1), 9);
    }

    @Sentence(promise = 3, words = "so with bridge, row, axle, size, turn, hours, slow and change that are not refused")
    static void whatWasFoundIsGone() {
        dueGone("bridge", x -> x.bridge(4), 3);
        dueGone("row", x -> bit(x.row(1, 0, 0, 1)), 1);
        dueGone("axle", x -> bit(x.axle(1, 0)), 1);
        dueGone("size", x -> bit(x.size(299, 300, 20)), 1);
        dueGone("turn", x -> bit(x.turn(0, 4, false)), 1);
        dueGone("hours", x -> bit(x.hours(0, 900, 900)), 1);
        dueGone("slow", x -> x.slow(0, true), 0);
        dueGone("change", x -> x.change(6, false), 1);
    }

    @Sentence(promise = 3, words = "also where they tell what was so before")
    static void whatWasFoundIsGoneThoughNothingIsNew() {
        dueGone("the same size", x -> bit(x.size(300, 300, 20)), 1);
        dueGone("a turn that passes", x -> bit(x.turn(0, 1, true)), 1);
        dueGone("a turn that does not pass", x -> bit(x.turn(2, 4, false)), 1);
        dueGone("the same hours", x -> bit(x.hours(3, 1400, 100)), 1);
        dueGone("a bridge that is slow", x -> x.slow(1, true), 1);
        dueGone("a bridge that is not slow", x -> x.slow(0, false), 0);
        dueGone("an open road", x -> x.change(0, true), 1);
        dueGone("a closed road", x -> x.change(4, false), 0);
    }

    @Sentence(promise = 3, words = "that are not refused")
    static void whatWasFoundStaysIfTheCallIsRefused() {
        dueRefused("road", Boundaries::rich, x -> x.road(0, 1, 1, 1, 10000), BAD);
        dueRefused("bridge", Boundaries::rich, x -> x.bridge(1), BAD);
        dueRefused("row", Boundaries::rich, x -> bit(x.row(0, 20, 1, 1)), 0);
        dueRefused("axle", Boundaries::rich, x -> bit(x.axle(0, 1)), 0);
        dueRefused("size", Boundaries::rich, x -> bit(x.size(300, 300, 201)), 0);
        dueRefused("turn", Boundaries::rich, x -> bit(x.turn(0, 3, true)), 0);
        dueRefused("hours", Boundaries::rich, x -> bit(x.hours(0, 0, 1440)), 0);
        dueRefused("slow", Boundaries::rich, x -> x.slow(3, true), BAD);
        dueRefused("change", Boundaries::rich, x -> x.change(9, true), BAD);
        HeavyRoutes x = rich();
        x.axle(0, 1);
        due("ways found", x.count(5), 2);
        dueRoads("the way at hand", x, 2, 3);
    }

    @Sentence(promise = 3, words = "not with node")
    static void whatWasFoundStaysWithANode() {
        HeavyRoutes x = rich();
        due("node", x.node(), 4);
        due("ways found", x.count(5), 2);
        dueRoads("the way at hand", x, 2, 3);
        due("a further way", x.alternate(1, 1), 80);
        HeavyRoutes y = full();
        due("refused", y.node(), BAD);
        due("ways found", y.count(5), 5);
    }

    @Sentence(promise = 4, words = "A road gets a bridge: which one.")
    static void bridgesAreNumberedInTheOrderOfCalls() {
        HeavyRoutes x = withRoads(12);
        for (int i = 0; i < 6; i++) {
            due("bridge", x.bridge(11 - i), i);
            due("bridges", x.count(2), i + 1);
        }
        for (int road = 0; road < 6; road++) {
            x.change(road, false);
        }
        for (int road = 6; road < 12; road++) {
            x.run(0, 1, 0);
            due("the first road that is open", x.road2(0), road);
            due("its bridge", x.notice(0), 11 - road);
            x.change(road, false);
        }
    }

    @Sentence(promise = 4, words = "BAD: no such road")
    static void aBridgesRoad() {
        dueInts("road", () -> withRoads(6), 0, 5, HeavyRoutes::bridge, 0, 0, BAD);
        dueInts("road", () -> withRoads(12), 0, 11, HeavyRoutes::bridge, 0, 0, BAD);
        dueRefused("without roads", () -> withNodes(2), x -> x.bridge(0), BAD);
        dueRefused("beyond", Boundaries::rich, x -> x.bridge(9), BAD);
    }

    @Sentence(promise = 4, words = "or it has one")
    static void aSecondBridge() {
        for (int road : new int[] {1, 5, 8}) {
            dueRefused("a second one on road " + road, Boundaries::rich, x -> x.bridge(road), BAD);
        }
    }

    @Sentence(promise = 4, words = "there are 6")
    static void thereAre6Bridges() {
        Supplier<HeavyRoutes> withSix = () -> {
            HeavyRoutes x = withBridges(6);
            lay(x, 0, 1, 10);
            return x;
        };
        HeavyRoutes withFive = withBridges(5);
        lay(withFive, 0, 1, 10);
        due("the sixth", withFive.bridge(5), 5);
        dueRefused("the seventh", withSix, x -> x.bridge(6), BAD);
        dueRefused("one more in a full net", Boundaries::full, x -> x.bridge(6), BAD);
        due("the sixth can be told of", withSix.get().row(5, 0, 0, 1), true);
        due("the seventh can't", withSix.get().row(6, 0, 0, 1), false);
    }

    @Sentence(promise = 5, words = "False: none such")
    static void aRowsBridge() {
        dueInts("bridge", Boundaries::rich, 0, 2, (x, bridge) -> bit(x.row(bridge, 60, 1, 1)), 1, 1, 0);
        dueInts("bridge", () -> withBridges(6), 0, 5, (x, bridge) -> bit(x.row(bridge, 60, 1, 1)), 1, 1, 0);
        dueRefused("without bridges", () -> withRoads(1), x -> bit(x.row(0, 0, 0, 1)), 0);
    }

    @Sentence(promise = 5, words = "the place is not 0 .. 60")
    static void aCornersPlace() {
        dueLongs("place", Boundaries::rich, 0, 60, (x, at) -> bit(x.row(1, at, 1, 1)), 1, 1, 0);
        dueRating("sixty apart", rated(BOTH_ENDS, new long[][] {{0, 1}, {30, 0}, {30, 1}}), 2, 1);
        dueRating("fifty-nine apart", rated(BOTH_ENDS, new long[][] {{0, 1}, {30, 0}, {29, 1}}), 1, 1);
    }

    @Sentence(promise = 5, words = "or not above the last one")
    static void aCornersPlaceAboveTheLastOne() {
        dueLongs("place", Boundaries::rich, 21, 60, (x, at) -> bit(x.row(0, at, 1, 1)), 1, 1, 0);
        dueRefused("the first one's place", Boundaries::rich, x -> bit(x.row(0, 10, 1, 1)), 0);
        dueRefused("between the corners", Boundaries::rich, x -> bit(x.row(0, 15, 1, 1)), 0);
        dueRefused("place 0", Boundaries::rich, x -> bit(x.row(0, 0, 1, 1)), 0);
        HeavyRoutes full = withBridges(2);
        due("the last place", full.row(0, 60, 1, 1), true);
        due("no place is left", full.row(0, 60, 1, 1), false);
        due("another bridge has its own", full.row(1, 0, 1, 1), true);
        due("and there", full.row(1, 0, 1, 1), false);
        due("0 is not above 0, 1 is", full.row(1, 1, 1, 1), true);
    }

    @Sentence(promise = 5, words = "above is not - 1,000 .. 1,000")
    static void aCornersUpperValue() {
        dueLongs("above", Boundaries::rich, -1000, 1000, (x, above) -> bit(x.row(0, 60, above, 1)), 1, 1, 0);
        dueRating("the greatest value", rated(new long[][] {{0, 1000, 1}}, new long[][] {{0, 1}}), 1000, 1);
        // The second axle at 1, and the first one off the row; were that at 0, there would be 1000 less.
        HeavyRoutes x = rated(new long[][] {{0, -1000, 1}, {1, 1000, 1}}, new long[][] {{0, 1}, {1, 2}});
        dueRating("the least value", x, 2000, 1);
        dueRating("the least value alone", rated(new long[][] {{0, -1000, 1}}, new long[][] {{0, 1}}), 0, 1);
    }

    @Sentence(promise = 5, words = "below not 1 .. 1,000")
    static void aCornersLowerValue() {
        dueLongs("below", Boundaries::rich, 1, 1000, (x, below) -> bit(x.row(0, 60, 1, below)), 1, 1, 0);
        dueRating("the least", rated(new long[][] {{0, 7, 1}}, new long[][] {{0, 1}}), 7, 1);
        dueRating("the greatest", rated(new long[][] {{0, 7, 1000}}, new long[][] {{0, 1}}), 7, 1000);
    }

    @Sentence(promise = 5, words = "there are 6")
    static void thereAre6Corners() {
        Supplier<HeavyRoutes> withSix = () -> {
            HeavyRoutes x = withBridges(2);
            for (int at = 0; at < 6; at++) {
                due("corner " + at, x.row(0, at, at, 1), true);
            }
            x.run(0, 1, 0);
            return x;
        };
        dueRefused("the seventh", withSix, x -> bit(x.row(0, 6, 1, 1)), 0);
        dueRefused("one more in a full net", Boundaries::full, x -> bit(x.row(5, 60, 1, 1)), 0);
        due("another bridge has its own", withSix.get().row(1, 0, 1, 1), true);
        HeavyRoutes x = withSix.get();
        x.axle(0, 1);
        dueRating("the sixth counts", x, 5, 1);
    }

    @Sentence(promise = 6, words = "1 .. 30 behind the last one")
    static void howFarBehindAnAxleIs() {
        dueLongs("behind", Boundaries::rich, 1, 30, (x, behind) -> bit(x.axle(behind, 1)), 1, 1, 0);
        // Thirty behind the last one, not behind the first one.
        dueRating("sixty behind the first one", rated(BOTH_ENDS, new long[][] {{0, 3}, {30, 1}, {30, 4}}), 7, 1);
        HeavyRoutes y = rated(new long[][] {{0, 1, 1}, {1, 1, 1}}, new long[][] {{0, 1}, {1, 1}});
        dueRating("one behind", y, 2, 1);
    }

    @Sentence(promise = 6, words = "(the first one 0)")
    static void theFirstAxleIs0Behind() {
        dueLongs("behind", Samples::withBridgeAndWay, 0, 0, (x, behind) -> bit(x.axle(behind, 1)), 1, 1, 0);
        dueRefused("30 behind", Samples::withBridgeAndWay, x -> bit(x.axle(30, 1)), 0);
        dueRefused("the second one 0 behind", Boundaries::rich, x -> bit(x.axle(0, 1)), 0);
        HeavyRoutes x = withBridgeAndWay();
        x.axle(1, 1);
        due("after a refused one still the first one", x.axle(1, 1), false);
        due("0 behind", x.axle(0, 1), true);
    }

    @Sentence(promise = 6, words = "with a load 0 .. 1,000")
    static void anAxlesLoad() {
        dueLongs("load", Boundaries::rich, 0, 1000, (x, load) -> bit(x.axle(1, load)), 1, 1, 0);
        dueLongs("first load", Samples::withBridgeAndWay, 0, 1000, (x, load) -> bit(x.axle(0, load)), 1, 1, 0);
        dueRating("no load", rated(new long[][] {{0, 1, 1}}, new long[][] {{0, 0}}), 0, 1);
        dueRating("greatest load", rated(new long[][] {{0, 1, 1}}, new long[][] {{0, 1000}}), 1000, 1);
    }

    @Sentence(promise = 6, words = "there are 5")
    static void thereAre5Axles() {
        HeavyRoutes x = rated(new long[][] {{0, 1, 1}, {60, 1, 1}}, new long[][] {{0, 1}, {1, 1}, {1, 1}, {1, 1}});
        due("the fifth", x.axle(1, 1), true);
        dueRating("the fifth counts", x, 5, 1);
        due("the sixth", x.axle(1, 1), false);
        due("axles", x.count(3), 5);
        dueRating("the sixth does not", x, 5, 1);
        dueRefused("one more in a full net", Boundaries::full, y -> bit(y.axle(1, 1)), 0);
        dueRefused("a first one in a full net", Boundaries::full, y -> bit(y.axle(0, 1)), 0);
    }

    @Sentence(promise = 7, words = "The journey's height and width, 1 .. 9,999")
    static void theJourneysHeight() {
        dueInts("height", Boundaries::rich, 1, 9999, (x, height) -> bit(x.size(height, 300, 20)), 1, 1, 0);
        dueInts("height", Boundaries::rich, 1, 9999, (x, height) -> bit(x.size(height, 1, 1)), 1, 1, 0);
    }

    @Sentence(promise = 7, words = "The journey's height and width, 1 .. 9,999")
    static void theJourneysWidth() {
        dueInts("width", Boundaries::rich, 1, 9999, (x, width) -> bit(x.size(300, width, 20)), 1, 1, 0);
        dueInts("width", Boundaries::rich, 1, 9999, (x, width) -> bit(x.size(1, width, 1)), 1, 1, 0);
        dueRefused("width, with the greatest height", Boundaries::rich, x -> bit(x.size(9999, 0, 1)), 0);
    }

    @Sentence(promise = 7, words = "and its length, 1 .. 200")
    static void theJourneysLength() {
        dueInts("length", Boundaries::rich, 1, 200, (x, length) -> bit(x.size(300, 300, length)), 1, 1, 0);
        dueRefused("length, with another height and width", Boundaries::rich, x -> bit(x.size(1, 1, 0)), 0);
        dueRefused("length, with another height and width", Boundaries::rich, x -> bit(x.size(9999, 9999, 201)), 0);
    }

    @Sentence(promise = 7, words = "(which counts for nothing that is told here)")
    static void theLengthCountsForNothing() {
        HeavyRoutes shortest = rich();
        HeavyRoutes longest = rich();
        shortest.size(300, 300, 1);
        longest.size(300, 300, 200);
        shortest.run(0, 3, 60);
        longest.run(0, 3, 60);
        dueAlike("length", shortest, longest);
    }

    @Sentence(promise = 7, words = "The journey's height and width")
    static void theJourneysSizeIs1AtFirst() {
        HeavyRoutes x = withNodes(2);
        x.road(0, 1, 1, 1, 1);
        due("a journey of size 1 on the least road", x.bars(0, 0), BAD);
        x.road(0, 1, 1, 51, 51);
        x.road(0, 1, 1, 50, 51);
        x.road(0, 1, 1, 51, 50);
        for (int closed = 0; closed < 4; closed++) {
            x.run(0, 1, 0);
            due("escort on a road less than 50 higher or wider than 1", x.escort(0), closed == 1 ? BAD : closed);
            x.change(closed, false);
        }
        HeavyRoutes y = withNodes(2);
        y.road(0, 1, 1, 1, 1);
        y.size(2, 1, 1);
        due("too high by 1", y.bars(0, 1), 2);
        y.size(1, 2, 1);
        due("too wide by 1", y.bars(0, 1), 3);
    }

    /** Roads from 0 by 1 to 2, whose ends are told in any order. */
    private static HeavyRoutes withTurn(boolean turnFirst, boolean turnSecond) {
        HeavyRoutes x = withNodes(3);
        lay(x, turnFirst ? 1 : 0, turnFirst ? 0 : 1, 10);
        lay(x, turnSecond ? 2 : 1, turnSecond ? 1 : 2, 10);
        return x;
    }

    @Sentence(promise = 8, words = "(at first all do)")
    static void allTurnsPassAtFirst() {
        due("there", withTurn(false, false).run(0, 2, 0), 20);
        due("back", withTurn(false, false).run(2, 0, 0), 20);
        HeavyRoutes x = withLongWays();
        x.run(0, 6, 0);
        due("all of 64 ways", x.count(6), 64);
    }

    @Sentence(promise = 8, words = "From a road a turn into another one passes, or does not")
    static void aTurnGoesOneWay() {
        HeavyRoutes x = withTurn(false, false);
        due("does not pass", x.turn(0, 1, false), true);
        due("there", x.run(0, 2, 0), -1);
        due("back", x.run(2, 0, 0), 20);
        due("does not pass, again", x.turn(0, 1, false), true);
        due("there", x.run(0, 2, 0), -1);
        due("the first road alone", x.run(0, 1, 0), 10);
        due("the second road alone", x.run(1, 2, 0), 10);
        due("passes", x.turn(0, 1, true), true);
        due("there", x.run(0, 2, 0), 20);
        due("passes, again", x.turn(0, 1, true), true);
        due("there", x.run(0, 2, 0), 20);
        due("the other turn does not pass", x.turn(1, 0, false), true);
        due("there", x.run(0, 2, 0), 20);
        due("back", x.run(2, 0, 0), -1);
    }

    @Sentence(promise = 8, words = "at whichever node they have in common")
    static void aTurnAtEitherEnd() {
        for (int ends = 0; ends < 4; ends++) {
            HeavyRoutes x = withTurn(ends % 2 == 1, ends > 1);
            due("turn", x.turn(0, 1, false), true);
            due("there", x.run(0, 2, 0), -1);
            due("back", x.run(2, 0, 0), 20);
        }
        HeavyRoutes y = withRoads(2);
        y.road(1, 0, 10, 500, 500);
        due("both nodes in common", y.turn(0, 1, false), true);
        due("both nodes in common, told the other way", y.turn(2, 1, false), true);
        due("a way of one road has no turn", y.run(0, 1, 0), 10);
        due("all ways", y.count(6), 3);
    }

    @Sentence(promise = 8, words = "False: no such roads")
    static void aTurnsRoads() {
        dueInts("first road", () -> withRoads(12), 0, 11, (x, a) -> bit(x.turn(a, 5, false)), 1, 1, 0);
        dueInts("second road", () -> withRoads(12), 0, 11, (x, b) -> bit(x.turn(5, b, false)), 1, 1, 0);
        for (int road : new int[] {-1, 9, MIN, MAX}) {
            dueRefused("first road " + road, Boundaries::rich, x -> bit(x.turn(road, 0, false)), 0);
            dueRefused("second road " + road, Boundaries::rich, x -> bit(x.turn(0, road, false)), 0);
            dueRefused("both " + road, Boundaries::rich, x -> bit(x.turn(road, road, false)), 0);
        }
        dueRefused("without roads", () -> withNodes(2), x -> bit(x.turn(0, 1, false)), 0);
        dueRefused("with one road", () -> withRoads(1), x -> bit(x.turn(0, 1, false)), 0);
        due("with two roads", withRoads(2).turn(0, 1, false), true);
    }

    @Sentence(promise = 8, words = "the same")
    static void aTurnIntoTheSameRoad() {
        for (int road = 0; road < 9; road++) {
            int same = road;
            dueRefused("the same", Boundaries::rich, x -> bit(x.turn(same, same, false)), 0);
            dueRefused("the same", Boundaries::rich, x -> bit(x.turn(same, same, true)), 0);
        }
    }

    @Sentence(promise = 8, words = "or without a node in common")
    static void aTurnBetweenRoadsApart() {
        dueRefused("roads 0 and 3", Boundaries::rich, x -> bit(x.turn(0, 3, false)), 0);
        dueRefused("roads 3 and 0", Boundaries::rich, x -> bit(x.turn(3, 0, false)), 0);
        dueRefused("roads 1 and 2, passing", Boundaries::rich, x -> bit(x.turn(1, 2, true)), 0);
        dueRefused("roads 4 and 5", Boundaries::rich, x -> bit(x.turn(4, 5, false)), 0);
        due("roads 0 and 4 meet", rich().turn(0, 4, false), true);
    }

    private static HeavyRoutes withHours(int... fromAndTo) {
        HeavyRoutes x = withRoads(1);
        for (int i = 0; i < fromAndTo.length; i += 2) {
            due("hours", x.hours(0, fromAndTo[i], fromAndTo[i + 1]), true);
        }
        return x;
    }

    /** At which minute road 0 of 10 minutes is begun on the way from a minute; -1: there is no way. */
    private static void dueBegun(String what, HeavyRoutes x, int minute, int begun) {
        due(what + ": run at " + minute, x.run(0, 1, minute), begun - minute + 10);
        due(what + ": begun", x.begun(0), begun);
    }

    @Sentence(promise = 9, words = "barred from a minute of the day (0 .. 1,439) up to another one")
    static void theMinutesOfHours() {
        dueInts("from", Boundaries::rich, 0, 1439, (x, from) -> bit(x.hours(0, from, 700)), 1, 1, 0);
        dueInts("to", Boundaries::rich, 0, 1439, (x, to) -> bit(x.hours(0, 700, to)), 1, 1, 0);
        dueBegun("the first minute alone", withHours(0, 0), 0, 1);
        dueBegun("the first minute alone", withHours(0, 0), 1, 1);
        dueBegun("the first minute alone, the day before", withHours(0, 0), 1439, 1439);
        dueBegun("the first minute alone, the next day", withHours(0, 0), 1440, 1441);
        dueBegun("the last minute alone", withHours(1439, 1439), 1438, 1438);
        dueBegun("the last minute alone", withHours(1439, 1439), 1439, 1440);
        dueBegun("the last minute alone, the next day", withHours(1439, 1439), 1440, 1440);
        dueBegun("the last minute alone, the next day", withHours(1439, 1439), 2879, 2880);
    }

    @Sentence(promise = 9, words = "that one too")
    static void hoursAreBarredFromTheirFirstToTheirLastMinute() {
        dueBegun("the minute before", withHours(100, 200), 99, 99);
        dueBegun("the first minute", withHours(100, 200), 100, 201);
        dueBegun("the last minute", withHours(100, 200), 200, 201);
        dueBegun("the minute after", withHours(100, 200), 201, 201);
        dueBegun("one minute, before", withHours(100, 100), 99, 99);
        dueBegun("one minute", withHours(100, 100), 100, 101);
        dueBegun("one minute, after", withHours(100, 100), 101, 101);
        dueBegun("up to midnight", withHours(1400, 1439), 1400, 1440);
        dueBegun("from midnight", withHours(0, 50), 1439, 1439);
        dueBegun("from midnight", withHours(0, 50), 1440, 1491);
        dueBegun("in the last minute that can be told", withHours(1300, 1400), 10000, 6 * 1440 + 1401);
    }

    @Sentence(promise = 9, words = "the first may be behind the last: then round midnight")
    static void hoursRoundMidnight() {
        for (int midnight = 0; midnight < 8640; midnight += 1440) {
            dueBegun("midnight", withHours(1400, 20), midnight, midnight + 21);
            dueBegun("the last minute", withHours(1400, 20), midnight + 20, midnight + 21);
            dueBegun("the minute after", withHours(1400, 20), midnight + 21, midnight + 21);
            dueBegun("the minute before", withHours(1400, 20), midnight + 1399, midnight + 1399);
            dueBegun("the first minute", withHours(1400, 20), midnight + 1400, midnight + 1461);
            dueBegun("the minute before midnight", withHours(1400, 20), midnight + 1439, midnight + 1461);
        }
        dueBegun("the least one, before", withHours(1439, 0), 1438, 1438);
        dueBegun("the least one", withHours(1439, 0), 1439, 1441);
        dueBegun("the least one", withHours(1439, 0), 0, 1);
        dueBegun("the least one, after", withHours(1439, 0), 1, 1);
        dueBegun("all but a minute", withHours(720, 718), 719, 719);
        dueBegun("all but a minute", withHours(720, 718), 720, 719 + 1440);
        dueBegun("all but a minute", withHours(720, 718), 0, 719);
    }

    @Sentence(promise = 9, words = "the first may be behind the last: then round midnight")
    static void hoursOfAllDay() {
        int[][] allDay = {
            {0, 1439}, {1, 0}, {720, 719}, {1439, 1438}, {0, 719, 720, 1439}, {1400, 20, 21, 1399},
            {0, 500, 400, 1000, 1001, 1439}, {1200, 300, 301, 700, 701, 1199}};
        for (int[] hours : allDay) {
            HeavyRoutes x = withHours(hours);
            for (int minute : new int[] {0, 1, 719, 720, 1439, 10000}) {
                due("barred all day, from minute " + hours[0], x.run(0, 1, minute), -1);
                due("no way", x.count(6), 0);
            }
        }
        int[][] allButOne = {{0, 1438}, {2, 0}, {0, 500, 400, 1000, 1001, 1438}, {1200, 300, 302, 700, 701, 1199}};
        int[] left = {1439, 1, 1439, 301};
        for (int i = 0; i < left.length; i++) {
            HeavyRoutes x = withHours(allButOne[i]);
            dueBegun("all but a minute", x, left[i], left[i]);
            dueBegun("all but a minute, that is over", x, left[i] + 1, left[i] + 1440);
            due("one way", x.count(6), 1);
        }
    }

    @Sentence(promise = 9, words = "A road is barred")
    static void aBarredRoadIsNotBegunButDrivenInto() {
        HeavyRoutes x = withNodes(3);
        lay(x, 0, 1, 100);
        lay(x, 1, 2, 100);
        x.hours(0, 50, 1000);
        x.hours(1, 149, 200);
        due("begun in the last minute before, driven into them", x.run(0, 1, 49), 100);
        due("it waits at the node between", x.run(0, 2, 49), 252);
        due("the first one begun", x.begun(0), 49);
        due("the second one begun", x.begun(1), 201);
        due("in time for the second one", x.run(0, 2, 48), 200);
        due("begun in the last minute before", x.begun(1), 148);
        due("back: the second one is barred that way too", x.run(2, 0, 149), 852 + 100);
        due("begun", x.begun(0), 201);
        due("begun", x.begun(1), 1001);
    }

    @Sentence(promise = 9, words = "False: none such")
    static void theRoadOfHours() {
        dueInts("road", Boundaries::rich, 0, 8, (x, road) -> bit(x.hours(road, 0, 0)), 1, 1, 0);
        dueInts("road", () -> withRoads(12), 0, 11, (x, road) -> bit(x.hours(road, 0, 0)), 1, 1, 0);
        dueRefused("without roads", () -> withNodes(2), x -> bit(x.hours(0, 0, 0)), 0);
    }

    @Sentence(promise = 9, words = "3 were told of it")
    static void threeHoursOfARoad() {
        Supplier<HeavyRoutes> withThree = () -> {
            HeavyRoutes x = withHours(100, 199, 200, 299, 300, 399);
            lay(x, 0, 1, 300);
            x.run(0, 1, 0);
            return x;
        };
        dueRefused("the fourth", withThree, x -> bit(x.hours(0, 400, 499)), 0);
        dueRefused("the fourth, told before", withThree, x -> bit(x.hours(0, 100, 199)), 0);
        due("another road has its own", withThree.get().hours(1, 0, 0), true);
        dueBegun("all three count", withThree.get(), 150, 400);
        HeavyRoutes same = withHours(100, 199, 100, 199, 100, 199);
        due("the same three times, too", same.hours(0, 100, 199), false);
        dueRefused("one more in a full net", Boundaries::full, x -> bit(x.hours(11, 0, 0)), 0);
    }

    @Sentence(promise = 17, words = "A bridge is slow, or not: whether it was (1 or 0).")
    static void aBridgeIsSlowOrNot() {
        HeavyRoutes x = withBridges(1);
        due("it was not, at first", x.slow(0, false), 0);
        due("it was not", x.slow(0, true), 0);
        due("it was", x.slow(0, true), 1);
        due("it was, too", x.slow(0, false), 1);
        due("it was not again", x.slow(0, false), 0);
    }

    @Sentence(promise = 17, words = "A bridge is slow, or not")
    static void aSlowBridgeTakesTwiceAsManyMinutes() {
        for (int minutes : new int[] {1, 600}) {
            HeavyRoutes x = withNodes(3);
            lay(x, 0, 1, minutes);
            lay(x, 1, 2, minutes);
            x.bridge(0);
            due("not slow", x.run(0, 2, 0), 2 * minutes);
            x.slow(0, true);
            due("the road with the slow bridge", x.run(0, 1, 0), 2 * minutes);
            due("the road without one", x.run(1, 2, 0), minutes);
            due("both", x.run(0, 2, 0), 3 * minutes);
            due("the second one is begun later", x.begun(1), 2 * minutes);
            due("all of a convoy", x.convoy(2, 5), 3 * minutes + 5);
            x.slow(0, false);
            due("not slow again", x.run(0, 2, 0), 2 * minutes);
        }
    }

    @Sentence(promise = 17, words = "BAD: none such.")
    static void theBridgeThatIsSlow() {
        dueInts("bridge", Boundaries::rich, 0, 2, (x, bridge) -> x.slow(bridge, true), 0, 0, BAD);
        dueInts("bridge", () -> withBridges(6), 0, 5, (x, bridge) -> x.slow(bridge, true), 0, 0, BAD);
        dueRefused("without bridges", () -> withRoads(2), x -> x.slow(0, true), BAD);
        dueRefused("the road's number, not the bridge's", Boundaries::rich, x -> x.slow(8, true), BAD);
    }

    @Sentence(promise = 22, words = "A road is open, or closed: whether it was open (1 or 0).")
    static void aRoadIsOpenOrClosed() {
        HeavyRoutes x = withRoads(1);
        due("open at first", x.change(0, true), 1);
        due("it was open", x.change(0, false), 1);
        due("it does not bear", x.bars(0, 1), 1);
        due("it was closed", x.change(0, false), 0);
        due("it does not bear", x.bars(0, 1), 1);
        due("it was closed, too", x.change(0, true), 0);
        due("it bears", x.bars(0, 1), BAD);
        due("it was open again", x.change(0, true), 1);
    }

    @Sentence(promise = 22, words = "BAD: none such.")
    static void theRoadThatIsOpen() {
        dueInts("road", Boundaries::rich, 0, 8, (x, road) -> x.change(road, false), 1, 1, BAD);
        dueInts("road", () -> withRoads(12), 0, 11, (x, road) -> x.change(road, true), 1, 1, BAD);
        dueRefused("without roads", () -> withNodes(2), x -> x.change(0, false), BAD);
    }
}
