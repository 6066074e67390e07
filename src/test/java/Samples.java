/** What the tests of worked examples have in common: the answers counted, and small nets to begin from. */
abstract class Samples {
    static final Check CHECK = new Check();
    static final int BAD = HeavyRoutes.BAD;
    static final int NONE = HeavyRoutes.NONE;
    static final int MIN = Integer.MIN_VALUE;
    static final int MAX = Integer.MAX_VALUE;

    static void due(String what, long got, long want) {
        CHECK.due(what, got, want);
    }

    static void due(String what, boolean got, boolean want) {
        CHECK.due(what, got, want);
    }

    /** A new object with some nodes. */
    static HeavyRoutes withNodes(int nodes) {
        HeavyRoutes x = new HeavyRoutes();
        for (int i = 0; i < nodes; i++) {
            x.node();
        }
        return x;
    }

    /** A road of ordinary height and width. */
    static int lay(HeavyRoutes x, int a, int b, int minutes) {
        return x.road(a, b, minutes, 500, 500);
    }

    /** Two nodes, and some roads of 10 minutes between them. */
    static HeavyRoutes withRoads(int roads) {
        HeavyRoutes x = withNodes(2);
        for (int i = 0; i < roads; i++) {
            lay(x, 0, 1, 10);
        }
        return x;
    }

    /** As withRoads(), with a bridge on each road, of the road's number. */
    static HeavyRoutes withBridges(int bridges) {
        HeavyRoutes x = withRoads(bridges);
        for (int i = 0; i < bridges; i++) {
            x.bridge(i);
        }
        return x;
    }

    /** Nodes 0 and 1, road 0 of 10 minutes between them, and the way by it at hand. */
    static HeavyRoutes withWay() {
        HeavyRoutes x = withRoads(1);
        x.run(0, 1, 0);
        return x;
    }

    /** As withWay(), with a bridge on the road. */
    static HeavyRoutes withBridgeAndWay() {
        HeavyRoutes x = withBridges(1);
        x.run(0, 1, 0);
        return x;
    }

    /** A bridge alone: its row by place, above, below; then one axle or more by behind, load. */
    static HeavyRoutes rated(long[][] corners, long[][] axles) {
        HeavyRoutes x = withBridges(1);
        for (long[] corner : corners) {
            due("row", x.row(0, corner[0], corner[1], corner[2]), true);
        }
        for (long[] axle : axles) {
            due("axle", x.axle(axle[0], axle[1]), true);
        }
        return x;
    }

    static void dueRating(String what, HeavyRoutes x, long upper, long lower) {
        due(what + ", upper", x.rating(0, 0), upper);
        due(what + ", lower", x.rating(0, 1), lower);
        due(what + ", kept", x.kept(0), true);
    }

    static void dueRoads(String what, HeavyRoutes x, int... roads) {
        due(what + ": roads", x.count(4), roads.length);
        for (int i = 0; i < roads.length; i++) {
            due(what + ": road " + i, x.road2(i), roads[i]);
        }
        due(what + ": no further road", x.road2(roads.length), BAD);
    }

    /**
     * From 0 to 3: by 1 (roads 0 1, 20 minutes), by 2 (2 3, 26), by 2 and 1 (2 4 1, 28), by 1 and 2 (0 4 3, 32), and by
     * road 5 (40).
     */
    static HeavyRoutes withFiveWays() {
        HeavyRoutes x = withNodes(4);
        lay(x, 0, 1, 10);
        lay(x, 1, 3, 10);
        lay(x, 0, 2, 11);
        lay(x, 2, 3, 15);
        lay(x, 1, 2, 7);
        lay(x, 0, 3, 40);
        return x;
    }

    /** Seven nodes in a row, a road of 10 minutes from each to the next one, and beside it one of 11: 64 ways. */
    static HeavyRoutes withLongWays() {
        HeavyRoutes x = withNodes(7);
        for (int minutes = 10; minutes <= 11; minutes++) {
            for (int i = 0; i < 6; i++) {
                lay(x, i, i + 1, minutes);
            }
        }
        return x;
    }
}
