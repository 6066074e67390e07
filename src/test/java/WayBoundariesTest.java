import java.util.function.Supplier;

/** Boundary cases of ways and of what is told of them: promises 12 to 16, 18 to 21 and 23. */
public final class WayBoundariesTest extends Boundaries {
    public static void main(String[] args) {
        runAll(WayBoundariesTest.class);
    }

    /** Two nodes that no road joins. */
    private static HeavyRoutes withoutAWay() {
        HeavyRoutes x = withWay();
        x.node();
        x.run(0, 2, 0);
        return x;
    }

    @Sentence(promise = 12, words = "beginning at a minute (0 .. 10,000)")
    static void theMinuteOfARun() {
        dueInts("minute", Boundaries::rich, 0, 10000, (x, minute) -> x.run(0, 3, minute), 20, 20, NONE);
        HeavyRoutes x = rich();
        x.run(0, 3, 10000);
        due("begun in the last minute", x.begun(0), 10000);
        x.run(0, 3, 0);
        due("begun in the first minute", x.begun(0), 0);
    }

    @Sentence(promise = 12, words = "The best way from a node to another one")
    static void theBetterOfTwoWaysThatAreAlmostAlike() {
        // From 0 to 2 by road 2, and by roads 0 1; then bridges on some of them, and road 2 made longer or not.
        int[][] bridges = {{}, {2}, {0}, {0, 2}, {2, 0, 1}};
        boolean[] shorter = {true, false, true, true, true};
        for (int i = 0; i < bridges.length; i++) {
            for (int minutes = 19; minutes <= 21; minutes++) {
                HeavyRoutes x = withNodes(3);
                lay(x, 0, 1, 10);
                lay(x, 1, 2, 10);
                lay(x, 0, 2, minutes);
                for (int road : bridges[i]) {
                    x.bridge(road);
                }
                x.run(0, 2, 0);
                boolean byRoad2 = minutes < 20 || minutes == 20 && shorter[i];
                due("case " + i + ", " + minutes + " minutes", x.road2(0), byRoad2 ? 2 : 0);
            }
        }
        HeavyRoutes x = withNodes(4);
        int[][] ends = {{2, 3}, {1, 3}, {1, 3}, {0, 1}, {0, 2}};
        for (int[] end : ends) {
            lay(x, end[0], end[1], 10);
        }
        x.run(0, 3, 0);
        dueRoads("the lesser number where they differ first", x, 3, 1);
        x.alternate(1, 1);
        dueRoads("the lesser number where they differ first, at the end", x, 3, 2);
        x.alternate(1, 1);
        dueRoads("the lesser number where they differ first, not the least of all", x, 4, 0);
        x.run(3, 0, 0);
        dueRoads("back", x, 0, 4);
    }

    @Sentence(promise = 12, words = "The best way from a node to another one")
    static void aWayComesToNoNodeTwice() {
        HeavyRoutes between = withNodes(4);
        lay(between, 0, 1, 10);
        lay(between, 1, 2, 10);
        lay(between, 1, 3, 10);
        lay(between, 3, 1, 10);
        between.turn(0, 1, false);
        due("round by 3 to a node between again, the turn would pass", between.run(0, 2, 0), -1);
        due("no way", between.count(6), 0);
        HeavyRoutes ends = withNodes(3);
        lay(ends, 0, 1, 10);
        lay(ends, 0, 2, 10);
        lay(ends, 2, 0, 10);
        due("run", ends.run(0, 1, 0), 10);
        due("not round by 2 to its beginning again", ends.count(6), 1);
        due("run", ends.run(1, 0, 0), 10);
        due("not round by 2 to its end again", ends.count(6), 1);
    }

    @Sentence(promise = 12, words = "after how many minutes it ends")
    static void howLongWaysTake() {
        HeavyRoutes least = withNodes(2);
        least.road(0, 1, 1, 1, 1);
        due("the least", least.run(0, 1, 0), 1);
        due("the least, counted from its beginning", least.run(0, 1, 10000), 1);
        HeavyRoutes greatest = withNodes(7);
        for (int i = 0; i < 6; i++) {
            lay(greatest, i, i + 1, 600);
            greatest.bridge(i);
            greatest.slow(i, true);
            // Open for the minute alone that is over when the road is come to.
            int open = Math.floorMod(10000 + i * (1440 + 1199) - 1, 1440);
            greatest.hours(i, (open + 1) % 1440, (open + 1439) % 1440);
        }
        due("the greatest", greatest.run(0, 6, 10000), 6 * (1439 + 1200));
        due("the last road begun", greatest.begun(5), 10000 + 5 * 2639 + 1439);
    }

    @Sentence(promise = 12, words = "- 1: there is none")
    static void thereIsNoWay() {
        HeavyRoutes x = withoutAWay();
        due("no road there", x.run(0, 2, 0), -1);
        due("no road back", x.run(2, 0, 0), -1);
        due("a road elsewhere", x.run(0, 1, 0), 10);
        x.change(0, false);
        due("its road is closed", x.run(0, 1, 0), -1);
        due("no roads at all", withNodes(2).run(0, 1, 0), -1);
        HeavyRoutes y = withWay();
        y.size(501, 1, 1);
        due("its road is too low", y.run(0, 1, 0), -1);
        y.size(1, 501, 1);
        due("its road is too narrow", y.run(0, 1, 0), -1);
        y.size(500, 500, 1);
        due("its road is just as high and wide", y.run(0, 1, 0), 10);
    }

    @Sentence(promise = 12, words = "- 1: there is none")
    static void aBridgesRatingOf1AndAbove() {
        HeavyRoutes one = rated(new long[][] {{0, 1000, 1000}}, new long[][] {{0, 1}});
        due("just 1", one.run(0, 1, 0), 10);
        HeavyRoutes above = rated(new long[][] {{0, 1000, 999}}, new long[][] {{0, 1}});
        due("1000 / 999", above.run(0, 1, 0), -1);
        HeavyRoutes below = rated(new long[][] {{0, 999, 1000}}, new long[][] {{0, 1}});
        due("999 / 1000", below.run(0, 1, 0), 10);
        HeavyRoutes littleAbove = rated(
            new long[][] {{2, 82, 857}, {9, 38, 937}, {12, 49, 829}, {24, 360, 811}, {53, 118, 883}, {58, 296, 911}},
            new long[][] {{0, 0}, {2, 1}, {1, 0}, {14, 1}, {8, 1}});
        dueRating("a little above 1", littleAbove, 20767918, 20767277);
        due("a little above 1", littleAbove.run(0, 1, 0), -1);
        HeavyRoutes littleBelow = rated(
            new long[][] {{0, 75, 907}, {6, 382, 929}, {34, 286, 967}, {47, 44, 839}, {50, 37, 997}, {58, 64, 827}},
            new long[][] {{0, 1}, {6, 1}, {8, 0}, {14, 0}, {5, 1}});
        dueRating("a little below 1", littleBelow, 68575956278L, 68587589707L);
        due("a little below 1", littleBelow.run(0, 1, 0), 10);
    }

    @Sentence(promise = 12, words = "NONE: no such nodes")
    static void theNodesOfARun() {
        dueInts("from", Boundaries::rich, 0, 3, (x, from) -> x.run(from, from == 1 ? 2 : 1, 0), 10, 10, NONE);
        dueInts("to", Boundaries::rich, 0, 3, (x, to) -> x.run(to == 1 ? 2 : 1, to, 0), 10, 10, NONE);
        dueInts("from, of seven", Boundaries::full, 0, 6, (x, from) -> x.run(from, 3, 0), 30, 30, NONE);
        dueInts("to, of seven", Boundaries::full, 0, 6, (x, to) -> x.run(3, to, 0), 30, 30, NONE);
        dueRefused("without nodes", HeavyRoutes::new, x -> x.run(0, 1, 0), NONE);
        dueRefused("with one node", () -> withNodes(1), x -> x.run(0, 1, 0), NONE);
    }

    @Sentence(promise = 12, words = "or both are one")
    static void fromANodeToItself() {
        for (int i = 0; i < 4; i++) {
            int node = i;
            dueRefused("from " + node + " to itself", Boundaries::rich, x -> x.run(node, node, 0), NONE);
        }
    }

    @Sentence(promise = 12, words = "(nothing is changed)")
    static void aRefusedRunChangesNothing() {
        HeavyRoutes x = rich();
        due("refused", x.run(3, 3, 500), NONE);
        due("refused", x.run(0, 4, 500), NONE);
        due("refused", x.run(1, 2, 10001), NONE);
        due("ways found", x.count(5), 2);
        dueRoads("the way at hand", x, 2, 3);
        due("no record", x.record(2), NONE);
        due("ways between the nodes of the last run", x.count(6), 3);
        due("a convoy from the minute of the last run", x.convoy(1, 0), 56);
        due("a further way from the minute of the last run", x.alternate(1, 1), 80);
        due("from that minute", x.begun(0), 60);
        dueRefused("when there is no way at hand", WayBoundariesTest::withoutAWay, y -> y.run(0, 1, -1), NONE);
        dueRefused("when five are found", Boundaries::full, y -> y.run(0, 6, 10001), NONE);
    }

    @Sentence(promise = 12, words = "It is the way AT HAND then, and the only one that is FOUND")
    static void theOnlyOneThatIsFound() {
        HeavyRoutes x = full();
        due("five are found", x.count(5), 5);
        due("the same run", x.run(0, 6, 0), 60);
        due("one is found", x.count(5), 1);
        dueRoads("the best one is at hand", x, 0, 1, 2, 3, 4, 5);
        due("a further way, that was found before the run", x.alternate(1, 1), 61);
        dueRoads("a further way, with a bridge less", x, 0, 1, 2, 3, 4, 11);
        due("another run", x.run(6, 5, 0), 10);
        due("one is found", x.count(5), 1);
    }

    @Sentence(promise = 12, words = "without one there is none at hand")
    static void withoutOneThereIsNoneAtHand() {
        HeavyRoutes x = withFiveWays();
        x.run(0, 3, 0);
        x.alternate(1, 1);
        x.node();
        due("there is none", x.run(0, 4, 0), -1);
        due("none is found", x.count(5), 0);
        due("no roads", x.count(4), 0);
        due("road2", x.road2(0), BAD);
        due("begun", x.begun(0), BAD);
        due("alternate", x.alternate(1, 1), NONE);
        due("convoy", x.convoy(1, 0), BAD);
        due("escort", x.escort(0), BAD);
        due("notice", x.notice(0), BAD);
    }

    @Sentence(promise = 13, words = "The k-th road of the way at hand. BAD: none such.")
    static void theRoadsOfTheWayAtHand() {
        dueInts("k", Boundaries::rich, 0, 1, HeavyRoutes::road2, 2, 3, BAD);
        dueInts("k, of one road", Samples::withWay, 0, 0, HeavyRoutes::road2, 0, 0, BAD);
        Supplier<HeavyRoutes> longest = () -> {
            HeavyRoutes x = withLongWays();
            x.run(6, 0, 0);
            return x;
        };
        dueInts("k, of six roads", longest, 0, 5, HeavyRoutes::road2, 5, 0, BAD);
        for (int k = -1; k <= 1; k++) {
            due("before a run", withFiveWays().road2(k), BAD);
            due("without a way", withoutAWay().road2(k), BAD);
        }
    }

    @Sentence(promise = 14, words = "The minute at which the k-th road of the way at hand is begun. BAD: none such.")
    static void theBeginningsOfTheWayAtHand() {
        dueInts("k", Boundaries::rich, 0, 1, HeavyRoutes::begun, 60, 101, BAD);
        dueInts("k, of one road", Samples::withWay, 0, 0, HeavyRoutes::begun, 0, 0, BAD);
        Supplier<HeavyRoutes> longest = () -> {
            HeavyRoutes x = withLongWays();
            x.run(6, 0, 10000);
            return x;
        };
        dueInts("k, of six roads", longest, 0, 5, HeavyRoutes::begun, 10000, 10050, BAD);
        for (int k = -1; k <= 1; k++) {
            due("before a run", withFiveWays().begun(k), BAD);
            due("without a way", withoutAWay().begun(k), BAD);
        }
    }

    @Sentence(promise = 15, words = "The k-th road (in order) that does not bear the journey")
    static void theRoadsThatDoNotBear() {
        dueInts("k", Boundaries::rich, 0, 3, (x, k) -> x.bars(k, 0), 4, 8, BAD);
        dueInts("k", Boundaries::rich, 0, 3, (x, k) -> x.bars(k, 1), 1, 4, BAD);
        HeavyRoutes x = rich();
        int[] roads = {4, 6, 7, 8};
        for (int k = 0; k < 4; k++) {
            due("road", x.bars(k, 0), roads[k]);
            due("why", x.bars(k, 1), k + 1);
        }
        due("without roads", withNodes(2).bars(0, 0), BAD);
        due("where all roads bear", withRoads(12).bars(0, 0), BAD);
        Supplier<HeavyRoutes> allBar = () -> {
            HeavyRoutes y = withRoads(12);
            y.size(501, 1, 1);
            return y;
        };
        dueInts("k, of twelve", allBar, 0, 11, (y, k) -> y.bars(k, 0), 0, 11, BAD);
        dueInts("k, of twelve", allBar, 0, 11, (y, k) -> y.bars(k, 1), 2, 2, BAD);
    }

    @Sentence(promise = 15, words = "what 0 the road, 1 why")
    static void whatIsToldOfThem() {
        dueInts("what", Boundaries::rich, 0, 1, (x, what) -> x.bars(0, what), 4, 1, BAD);
        dueInts("what", Boundaries::rich, 0, 1, (x, what) -> x.bars(3, what), 8, 4, BAD);
    }

    @Sentence(promise = 15, words = "the first of 1 it is closed, 2 too low, 3 too narrow, 4 its bridge")
    static void theFirstReason() {
        for (int reasons = 0; reasons < 16; reasons++) {
            HeavyRoutes x = withNodes(2);
            boolean closed = (reasons & 1) != 0;
            boolean low = (reasons & 2) != 0;
            boolean narrow = (reasons & 4) != 0;
            boolean weak = (reasons & 8) != 0;
            x.road(0, 1, 10, low ? 99 : 100, narrow ? 99 : 100);
            x.bridge(0);
            x.row(0, 0, weak ? 1000 : 999, 999);
            x.axle(0, 1);
            x.size(100, 100, 1);
            x.change(0, !closed);
            int first = closed ? 1 : low ? 2 : narrow ? 3 : weak ? 4 : BAD;
            due("why, of reasons " + reasons, x.bars(0, 1), first);
            due("road, of reasons " + reasons, x.bars(0, 0), first == BAD ? BAD : 0);
            due("run, of reasons " + reasons, x.run(0, 1, 0), first == BAD ? 10 : -1);
        }
    }

    @Sentence(promise = 15, words = "that does not bear the journey")
    static void heightWidthAndRatingAtTheirLimits() {
        HeavyRoutes x = withNodes(2);
        x.road(0, 1, 10, 100, 200);
        x.size(100, 200, 1);
        due("just as high and wide", x.bars(0, 1), BAD);
        x.size(101, 200, 1);
        due("higher by 1", x.bars(0, 1), 2);
        x.size(100, 201, 1);
        due("wider by 1", x.bars(0, 1), 3);
        x.size(99, 199, 1);
        due("lower and narrower", x.bars(0, 1), BAD);
        x.bridge(0);
        due("a bridge without a row", x.bars(0, 1), BAD);
        x.axle(0, 1);
        x.row(0, 0, 1000, 1000);
        due("a rating of 1", x.bars(0, 1), BAD);
        x.row(0, 60, 1000, 999);
        due("a rating of 1000 / 999", x.bars(0, 1), 4);
        HeavyRoutes barred = withRoads(1);
        barred.hours(0, 0, 1439);
        due("barred all day, but it bears", barred.bars(0, 0), BAD);
    }

    @Sentence(promise = 16, words = "between the nodes, and from the minute, of the last run()")
    static void alternatesOfTheLastRun() {
        HeavyRoutes x = withFiveWays();
        x.run(0, 3, 10000);
        x.run(3, 0, 77);
        due("back", x.alternate(1, 1), 26);
        dueRoads("back", x, 3, 2);
        due("from the minute", x.begun(0), 77);
        due("a refused run between", x.run(0, 3, 10001), NONE);
        due("back", x.alternate(1, 1), 28);
        due("from the minute", x.begun(0), 77);
    }

    @Sentence(promise = 16, words = "the best one that was not found")
    static void theBestOneThatWasNotFound() {
        HeavyRoutes x = withFiveWays();
        x.run(0, 3, 0);
        int[] ends = {26, 28, 32, 40};
        for (int i = 0; i < 4; i++) {
            due("further way", x.alternate(1, 1), ends[i]);
        }
        HeavyRoutes alike = withRoads(4);
        alike.bridge(0);
        alike.run(0, 1, 0);
        due("without a bridge, the least number", alike.road2(0), 1);
        int[] roads = {2, 3, 0};
        for (int road : roads) {
            due("as long", alike.alternate(0, 1), 10);
            dueRoads("in order", alike, road);
        }
    }

    @Sentence(promise = 16, words = "at most as many roads as that has, times above / below, cut off")
    static void howManyRoadsAreShared() {
        for (int below = 1; below <= 100; below++) {
            for (int above = 0; above <= below; above++) {
                HeavyRoutes x = withLongWays();
                x.run(0, 6, 0);
                // Each road of six that is not shared takes a minute more; one of them must not be.
                int shared = Math.min(5, 6 * above / below);
                due("six times " + above + " / " + below, x.alternate(above, below), 60 + 6 - shared);
            }
        }
    }

    @Sentence(promise = 16, words = "shares with the first one found")
    static void theFirstOneFoundCounts() {
        HeavyRoutes x = withFiveWays();
        x.run(0, 3, 0);
        due("none shared", x.alternate(0, 1), 26);
        due("none shared with the first one, none with the second one", x.alternate(0, 1), 40);
        due("none is left that shares none with the first one", x.alternate(0, 1), -1);
        due("one shared with the first one, one with the second one", x.alternate(1, 2), 28);
        due("one shared with the first one, two with those found later", x.alternate(1, 2), 32);
    }

    @Sentence(promise = 16, words = "below not 0")
    static void theFractionsLowerPart() {
        dueLongs("below, with 0 above", Boundaries::rich, 1, 100, (x, below) -> x.alternate(0, below), 80, 80, NONE);
        dueLongs("below, with 1 above", Boundaries::rich, 1, 100, (x, below) -> x.alternate(1, below), 80, 80, NONE);
        dueRefused("0 / 0", Boundaries::rich, x -> x.alternate(0, 0), NONE);
        dueRefused("-1 / -1", Boundaries::rich, x -> x.alternate(-1, -1), NONE);
        dueRefused("101 / 101", Boundaries::rich, x -> x.alternate(101, 101), NONE);
        dueRefused("1 / 0, when five are found", Boundaries::full, x -> x.alternate(1, 0), NONE);
    }

    @Sentence(promise = 16, words = "NONE: no such fraction")
    static void theFractionsUpperPart() {
        dueLongs("above 1", Boundaries::rich, 0, 1, (x, above) -> x.alternate(above, 1), 80, 80, NONE);
        dueLongs("above 100", Boundaries::rich, 0, 100, (x, above) -> x.alternate(above, 100), 80, 80, NONE);
        dueLongs("above 50", Boundaries::rich, 0, 50, (x, above) -> x.alternate(above, 50), 80, 80, NONE);
    }

    @Sentence(promise = 16, words = "it is at hand and found then")
    static void aFurtherWayIsAtHandAndFound() {
        HeavyRoutes x = rich();
        due("a further way", x.alternate(0, 1), 80);
        due("ways found", x.count(5), 3);
        dueRoads("at hand", x, 5);
        due("its bridge", x.notice(0), 1);
        due("begun", x.begun(0), 60);
        due("convoy", x.convoy(1, 0), 80);
    }

    @Sentence(promise = 16, words = "- 1: there is none: the way at hand stays.")
    static void withoutAFurtherWayTheOneAtHandStays() {
        Supplier<HeavyRoutes> threeFound = () -> {
            HeavyRoutes x = rich();
            x.alternate(1, 1);
            return x;
        };
        dueRefused("all ways are found", threeFound, x -> x.alternate(1, 1), -1);
        dueRefused("none that shares none", Samples::withWay, x -> x.alternate(0, 1), -1);
        dueRefused("none that shares at most all", Samples::withWay, x -> x.alternate(1, 1), -1);
        HeavyRoutes x = withFiveWays();
        x.change(3, false);
        x.change(5, false);
        due("by 0 1", x.run(0, 3, 0), 20);
        due("and by 2 4 1", x.count(6), 2);
        due("none that shares less than a road", x.alternate(49, 100), -1);
        dueRoads("the way at hand stays", x, 0, 1);
        due("ways found", x.count(5), 1);
        due("one that shares one road", x.alternate(50, 100), 28);
        due("no more", x.alternate(1, 1), -1);
        dueRoads("the way at hand stays", x, 2, 4, 1);
        due("ways found", x.count(5), 2);
    }

    @Sentence(promise = 16, words = "no way is found")
    static void noWayIsFoundToShareWith() {
        dueRefused("before a run", Samples::withFiveWays, x -> x.alternate(1, 1), NONE);
        dueRefused("after a run without a way", WayBoundariesTest::withoutAWay, x -> x.alternate(1, 1), NONE);
        Supplier<HeavyRoutes> gone = () -> {
            HeavyRoutes x = rich();
            x.size(300, 300, 20);
            return x;
        };
        dueRefused("after what was found is gone", gone, x -> x.alternate(1, 1), NONE);
        dueRefused("in a new object", HeavyRoutes::new, x -> x.alternate(0, 1), NONE);
    }

    @Sentence(promise = 16, words = "5 are")
    static void fiveWaysAreFound() {
        HeavyRoutes x = withLongWays();
        x.run(0, 6, 0);
        for (int found = 1; found < 5; found++) {
            due("further way " + found, x.alternate(1, 1), 61);
            due("ways found", x.count(5), found + 1);
        }
        due("the sixth", x.alternate(1, 1), NONE);
        due("ways found", x.count(5), 5);
        dueRefused("one more in a full net", Boundaries::full, y -> y.alternate(1, 1), NONE);
        dueRefused("one more in a full net", Boundaries::full, y -> y.alternate(0, 1), NONE);
        due("again after a run", x.run(0, 6, 0) + x.alternate(1, 1), 60 + 61);
        HeavyRoutes tried = withLongWays();
        tried.run(0, 5, 0);
        for (int i = 0; i < 6; i++) {
            tried.alternate(2, 1);
        }
        due("refused ones are not found", tried.alternate(1, 1), 51);
    }

    @Sentence(promise = 18, words = "n journeys (1 .. 20)")
    static void howManyJourneys() {
        dueInts("n", Boundaries::rich, 1, 20, (x, n) -> x.convoy(n, 0), 56, 56, BAD);
        dueInts("n, 3 minutes apart", Boundaries::rich, 1, 20, (x, n) -> x.convoy(n, 3), 56, 19 * 3 + 11 + 15, BAD);
    }

    @Sentence(promise = 18, words = "the i-th one beginning i times gap minutes (0 .. 600) behind the first one")
    static void howFarApart() {
        dueInts("gap, of two", Boundaries::rich, 0, 600, (x, gap) -> x.convoy(2, gap), 56, 626, BAD);
        dueInts("gap, of one", Boundaries::rich, 0, 600, (x, gap) -> x.convoy(1, gap), 56, 56, BAD);
        HeavyRoutes x = withWay();
        for (int n = 1; n <= 20; n++) {
            due("no gap", x.convoy(n, 0), 10);
            due("the least gap", x.convoy(n, 1), 10 + (n - 1));
            due("the greatest gap", x.convoy(n, 600), 10 + (n - 1) * 600);
        }
    }

    @Sentence(promise = 18, words = "after how many minutes from the first one's beginning all have come")
    static void aConvoyAtBarredHours() {
        HeavyRoutes x = withRoads(1);
        x.hours(0, 1400, 20);
        due("run", x.run(0, 1, 1390), 10);
        due("the second one in the last minute", x.convoy(2, 9), 19);
        due("the second one waits until after midnight", x.convoy(2, 10), 71 + 10);
        due("the second one waits at midnight", x.convoy(2, 50), 71 + 10);
        due("the second one comes in the last barred minute", x.convoy(2, 70), 71 + 10);
        due("the second one comes after them", x.convoy(2, 71), 71 + 10);
        due("the second one comes a minute later", x.convoy(2, 72), 72 + 10);
        due("the third one waits", x.convoy(3, 5), 71 + 10);
        due("the first one waits", x.run(0, 1, 1400), 71);
        due("the first one waits, counted from its beginning, not from its start", x.convoy(1, 600), 71);
        due("both wait for the same minute", x.convoy(2, 60), 71);
        dueRoads("the way at hand stays", x, 0);
    }

    @Sentence(promise = 18, words = "go by the roads of the way at hand")
    static void aConvoyKeepsToItsRoads() {
        HeavyRoutes x = withRoads(2);
        x.hours(0, 5, 1000);
        x.run(0, 1, 4);
        dueRoads("the first road is begun in its last minute", x, 0);
        due("the second journey waits, though the other road is free", x.convoy(2, 1), 1001 - 4 + 10);
        x.alternate(0, 1);
        due("by the other road", x.convoy(2, 1), 11);
    }

    @Sentence(promise = 18, words = "BAD: none such; no way.")
    static void aConvoyWithoutAWay() {
        dueRefused("before a run", Samples::withFiveWays, x -> x.convoy(1, 0), BAD);
        dueRefused("without a way", WayBoundariesTest::withoutAWay, x -> x.convoy(1, 0), BAD);
        dueRefused("in a new object", HeavyRoutes::new, x -> x.convoy(20, 600), BAD);
        HeavyRoutes x = rich();
        x.change(0, true);
        due("after what was found is gone", x.convoy(1, 0), BAD);
        HeavyRoutes asked = rich();
        asked.convoy(20, 600);
        dueAlike("a convoy changes nothing", asked, rich());
    }

    @Sentence(promise = 19, words = "The k-th road of the way at hand that wants an escort")
    static void theRoadsThatWantAnEscort() {
        Supplier<HeavyRoutes> longest = () -> {
            HeavyRoutes x = withLongWays();
            x.size(500, 1, 1);
            x.run(6, 0, 0);
            return x;
        };
        dueInts("k, of six", longest, 0, 5, HeavyRoutes::escort, 5, 0, BAD);
        Supplier<HeavyRoutes> none = () -> {
            HeavyRoutes x = longest.get();
            x.size(450, 450, 1);
            x.run(6, 0, 0);
            return x;
        };
        for (int k : new int[] {-1, 0, 1, MIN, MAX}) {
            dueRefused("none wants one, k " + k, none, x -> x.escort(k), BAD);
            dueRefused("without a way, k " + k, WayBoundariesTest::withoutAWay, x -> x.escort(k), BAD);
        }
        HeavyRoutes x = withNodes(4);
        x.road(2, 3, 10, 149, 500);
        x.road(1, 2, 10, 500, 500);
        x.road(0, 1, 10, 500, 149);
        x.size(100, 100, 1);
        x.run(0, 3, 0);
        due("first", x.escort(0), 2);
        due("second, the road between them left out", x.escort(1), 0);
        due("no more", x.escort(2), BAD);
    }

    @Sentence(promise = 19, words = "whose bridge's rating is above 3 / 4")
    static void anEscortOverABridge() {
        long[][] light = {{0, 1}};
        dueEscort("just 3 / 4", rated(new long[][] {{0, 750, 1000}}, light), BAD);
        dueEscort("751 / 1000", rated(new long[][] {{0, 751, 1000}}, light), 0);
        dueEscort("749 / 1000", rated(new long[][] {{0, 749, 1000}}, light), BAD);
        dueEscort("749 / 998", rated(new long[][] {{0, 749, 998}}, light), 0);
        dueEscort("748 / 998", rated(new long[][] {{0, 748, 998}}, light), BAD);
        dueEscort("1", rated(new long[][] {{0, 1, 1}}, light), 0);
        dueEscort("0", rated(new long[][] {}, light), BAD);
        dueEscort("a little above", rated(
            new long[][] {{4, 342, 947}, {16, 323, 953}, {24, 202, 947}, {32, 293, 853}, {34, 189, 967}, {52, 361, 911}},
            new long[][] {{0, 1}, {7, 0}, {11, 0}, {11, 0}, {15, 1}}), 0);
        dueEscort("a little below", rated(
            new long[][] {{11, 199, 829}, {19, 107, 991}, {33, 112, 971}, {40, 154, 809}, {46, 351, 929}, {59, 295, 823}},
            new long[][] {{0, 1}, {4, 1}, {14, 0}, {15, 0}, {15, 0}}), BAD);
    }

    private static void dueEscort(String what, HeavyRoutes x, int first) {
        due(what + ": run", x.run(0, 1, 0), 10);
        due(what + ": escort", x.escort(0), first);
        due(what + ": no more than one", x.escort(1), BAD);
    }

    @Sentence(promise = 19, words = "or that is less than 50 higher, or wider, than the journey")
    static void anEscortOnALowOrNarrowRoad() {
        int[][] roads = {{150, 150, BAD}, {149, 150, 0}, {150, 149, 0}, {149, 149, 0}, {100, 150, 0}, {150, 100, 0},
            {9999, 150, BAD}, {150, 9999, BAD}, {9999, 149, 0}, {149, 9999, 0}};
        for (int[] road : roads) {
            HeavyRoutes x = withNodes(2);
            x.road(0, 1, 10, road[0], road[1]);
            x.size(100, 100, 1);
            dueEscort("height " + road[0] + ", width " + road[1], x, road[2]);
        }
        HeavyRoutes least = withNodes(2);
        least.road(0, 1, 10, 51, 51);
        dueEscort("50 more than the least journey", least, BAD);
        HeavyRoutes greatest = withNodes(2);
        greatest.road(0, 1, 10, 9999, 9999);
        greatest.size(9949, 9949, 1);
        dueEscort("50 less than the greatest road", greatest, BAD);
        greatest.size(9950, 9949, 1);
        dueEscort("49 less than the greatest road", greatest, 0);
    }

    @Sentence(promise = 20, words = "The k-th bridge of the way at hand, in the order of roads. BAD: none such.")
    static void theBridgesOfTheWayAtHand() {
        Supplier<HeavyRoutes> sixBridges = () -> {
            HeavyRoutes x = withNodes(7);
            for (int i = 0; i < 6; i++) {
                lay(x, i, i + 1, 10);
            }
            for (int i = 0; i < 6; i++) {
                x.bridge((i + 2) % 6);
            }
            x.run(6, 0, 0);
            return x;
        };
        dueInts("k, of six", sixBridges, 0, 5, HeavyRoutes::notice, 3, 4, BAD);
        int[] bridges = {3, 2, 1, 0, 5, 4};
        for (int k = 0; k < 6; k++) {
            due("bridge", sixBridges.get().notice(k), bridges[k]);
        }
        HeavyRoutes some = withNodes(4);
        lay(some, 2, 3, 10);
        lay(some, 1, 2, 10);
        lay(some, 0, 1, 10);
        some.bridge(0);
        some.bridge(2);
        some.run(0, 3, 0);
        due("first", some.notice(0), 1);
        due("second, the road without one left out", some.notice(1), 0);
        due("no more", some.notice(2), BAD);
        for (int k : new int[] {-1, 0, 1, MIN, MAX}) {
            dueRefused("no bridge on the way, k " + k, Samples::withWay, x -> x.notice(k), BAD);
            dueRefused("no bridge on this way, k " + k, Boundaries::rich, x -> x.notice(k), BAD);
            dueRefused("without a way, k " + k, WayBoundariesTest::withoutAWay, x -> x.notice(k), BAD);
        }
    }

    @Sentence(promise = 21, words = "What the k-th run() answered, of those that were not NONE")
    static void whatRunsAnswered() {
        dueInts("k", Boundaries::rich, 0, 1, HeavyRoutes::record, 10, 20, NONE);
        HeavyRoutes x = withoutAWay();
        due("a way", x.record(0), 10);
        due("no way", x.record(1), -1);
        due("no more", x.record(2), NONE);
        x.run(0, 0, 0);
        x.run(0, 1, -1);
        due("refused ones are not counted", x.record(2), NONE);
        x.alternate(1, 1);
        due("nor are alternates", x.record(2), NONE);
        x.run(0, 1, 0);
        due("the next one", x.record(2), 10);
        x.change(0, false);
        due("they stay", x.record(0), 10);
    }

    @Sentence(promise = 21, words = "the first 50 are kept")
    static void theFirst50AreKept() {
        HeavyRoutes x = withNodes(2);
        for (int i = 0; i < 11; i++) {
            lay(x, 0, 1, 100 - i);
            for (int j = 0; j < 5; j++) {
                int k = 5 * i + j;
                due("not yet", x.record(k), NONE);
                due("run", x.run(0, 1, k), 100 - i);
                due("record " + k, x.record(k), k < 50 ? 100 - i : NONE);
            }
        }
        for (int k = 0; k < 50; k++) {
            due("kept " + k, x.record(k), 100 - k / 5);
        }
        due("the fifty-first", x.record(50), NONE);
        dueInts("k, of fifty", Boundaries::full, 0, 49, HeavyRoutes::record, 60, 60, NONE);
    }

    @Sentence(promise = 21, words = "NONE: none such.")
    static void noSuchRecord() {
        for (int k : new int[] {-1, 0, 1, 49, 50, MIN, MAX}) {
            dueRefused("before a run, k " + k, Samples::withFiveWays, x -> x.record(k), NONE);
        }
    }

    @Sentence(promise = 23, words = "0 nodes, 1 roads, 2 bridges, 3 axles")
    static void countsOfTheEmptyAndTheFullObject() {
        int[] most = {7, 12, 6, 5, 6, 5, 64};
        for (int what = 0; what < 7; what++) {
            due("empty: count " + what, new HeavyRoutes().count(what), 0);
            due("full: count " + what, full().count(what), most[what]);
        }
    }

    @Sentence(promise = 23, words = "4 roads of the way at hand (0 without)")
    static void countsOfRoadsAtHand() {
        due("one", withWay().count(4), 1);
        due("two", rich().count(4), 2);
        due("six", full().count(4), 6);
        due("before a run", withFiveWays().count(4), 0);
        due("without a way", withoutAWay().count(4), 0);
        HeavyRoutes x = rich();
        x.alternate(1, 1);
        due("of the way at hand, not of the first one", x.count(4), 1);
        x.change(5, true);
        due("gone", x.count(4), 0);
    }

    @Sentence(promise = 23, words = "5 ways found")
    static void countsOfWaysFound() {
        due("before a run", withFiveWays().count(5), 0);
        due("without a way", withoutAWay().count(5), 0);
        due("after a run", withWay().count(5), 1);
        due("after an alternate", rich().count(5), 2);
        due("five", full().count(5), 5);
    }

    @Sentence(promise = 23, words = "(0 before one)")
    static void countsOfWaysBeforeARun() {
        due("before a run", withFiveWays().count(6), 0);
        HeavyRoutes x = withFiveWays();
        x.run(0, 0, 0);
        due("after a refused one", x.count(6), 0);
        x.run(0, 3, 0);
        due("after one", x.count(6), 5);
    }

    @Sentence(promise = 23, words = "between the nodes of the last run() by roads as they are now")
    static void countsOfWaysAsRoadsAreNow() {
        HeavyRoutes x = withFiveWays();
        x.run(3, 0, 0);
        x.run(0, 3, 0);
        due("five ways", x.count(6), 5);
        x.alternate(1, 1);
        due("found or not", x.count(6), 5);
        x.change(5, false);
        due("a road closed", x.count(6), 4);
        x.turn(2, 4, false);
        due("a turn that does not pass", x.count(6), 3);
        x.hours(4, 0, 1438);
        due("a road that is barred all but a minute", x.count(6), 3);
        x.hours(4, 1439, 1439);
        due("a road that is barred all day", x.count(6), 2);
        lay(x, 0, 3, 600);
        due("a new road", x.count(6), 3);
        x.bridge(6);
        x.axle(0, 1);
        x.row(0, 0, 1, 1);
        due("a bridge of rating 1", x.count(6), 3);
        x.row(0, 1, 1000, 999);
        due("a bridge of a greater rating", x.count(6), 2);
        x.size(501, 1, 1);
        due("no road is high enough", x.count(6), 0);
        x.size(500, 500, 1);
        due("all are again", x.count(6), 2);
        x.node();
        due("a run without a way", x.run(0, 4, 0), -1);
        due("none to that node", x.count(6), 0);
        lay(x, 4, 0, 1);
        due("its first road", x.count(6), 1);
    }

    @Sentence(promise = 23, words = "BAD: another number.")
    static void whatIsCounted() {
        dueInts("what", Boundaries::rich, 0, 6, (x, what) -> x.count(what), 4, 3, BAD);
        dueInts("what", HeavyRoutes::new, 0, 6, (x, what) -> x.count(what), 0, 0, BAD);
        dueInts("what", Boundaries::full, 0, 6, (x, what) -> x.count(what), 7, 64, BAD);
    }
}
