import java.math.BigInteger;

/** Each promise of the document by worked examples: ordinary inputs, the edges that it names, wrong inputs. */
public final class PromisesTest extends Samples {
    public static void main(String[] args) {
        promise1New();
        promise2Node();
        promise3Road();
        promise3WhatWasFoundIsGone();
        promise4Bridge();
        promise5Row();
        promise6Axle();
        promise7Size();
        promise8Turn();
        promise9Hours();
        promise9HoursAtTheDaysEnds();
        promise9HoursAllDay();
        promise10Rating();
        promise10RatingOfRows();
        promise10RatingOfManyDigits();
        promise11Kept();
        promise12Run();
        promise12BetterWay();
        promise12NoNodeTwice();
        promise13Road2();
        promise14Begun();
        promise15Bars();
        promise16Alternate();
        promise16AlternateSharing();
        promise16FiveAreFound();
        promise17Slow();
        promise18Convoy();
        promise19Escort();
        promise20Notice();
        promise21Record();
        promise22Change();
        promise23Count();
        CHECK.end("PromisesTest");
    }

    private static void dueGone(String what, HeavyRoutes x) {
        due(what + ": none found", x.count(5), 0);
        dueRoads(what, x);
        due(what + ": begun", x.begun(0), BAD);
        due(what + ": alternate", x.alternate(1, 1), NONE);
        due(what + ": convoy", x.convoy(1, 0), BAD);
        due(what + ": escort", x.escort(0), BAD);
        due(what + ": notice", x.notice(0), BAD);
        x.run(0, 1, 0);
    }

    private static void promise1New() {
        HeavyRoutes x = new HeavyRoutes();
        for (int what = 0; what <= 6; what++) {
            due("new: count " + what, x.count(what), 0);
        }
        due("new: run", x.run(0, 1, 0), NONE);
        due("new: road2", x.road2(0), BAD);
        due("new: bars", x.bars(0, 0), BAD);
        due("new: record", x.record(0), NONE);
        HeavyRoutes other = withWay();
        due("objects are apart", x.count(1) + other.count(1), 1);
    }

    private static void promise2Node() {
        HeavyRoutes x = new HeavyRoutes();
        for (int i = 0; i < 7; i++) {
            due("node " + i, x.node(), i);
        }
        due("node 7", x.node(), BAD);
        due("node 8", x.node(), BAD);
        due("seven nodes", x.count(0), 7);
        HeavyRoutes y = withWay();
        due("a node more", y.node(), 2);
        dueRoads("a node leaves what was found", y, 0);
        due("a node leaves what was found", y.count(5), 1);
    }

    private static void promise3Road() {
        HeavyRoutes x = withNodes(3);
        int[][] wrong = {
            {0, 0, 1, 1, 1}, {0, 3, 1, 1, 1}, {3, 0, 1, 1, 1}, {-1, 0, 1, 1, 1}, {0, -1, 1, 1, 1},
            {0, 1, 0, 1, 1}, {0, 1, 601, 1, 1}, {0, 1, -1, 1, 1}, {0, 1, 1, 0, 1}, {0, 1, 1, 10000, 1},
            {0, 1, 1, 1, 0}, {0, 1, 1, 1, 10000}, {MIN, MAX, MIN, MAX, MIN}, {0, 1, MAX, 1, 1}, {0, 1, 1, MIN, 1}};
        for (int[] r : wrong) {
            due("wrong road", x.road(r[0], r[1], r[2], r[3], r[4]), BAD);
        }
        due("no road yet", x.count(1), 0);
        due("least road", x.road(0, 1, 1, 1, 1), 0);
        due("greatest road", x.road(1, 2, 600, 9999, 9999), 1);
        due("it is open", x.change(1, true), 1);
        due("least and greatest road driven", x.run(0, 2, 0), 601);
        due("back", x.run(2, 0, 0), 601);
        for (int i = 2; i < 12; i++) {
            due("road " + i + " beside another", x.road(1, 0, 5, 10, 10), i);
        }
        due("road 12", x.road(0, 1, 1, 1, 1), BAD);
        due("twelve roads", x.count(1), 12);
    }

    private static void promise3WhatWasFoundIsGone() {
        HeavyRoutes x = withBridgeAndWay();
        x.node();
        lay(x, 1, 2, 5);
        dueGone("road", x);
        x.bridge(1);
        dueGone("bridge", x);
        x.row(0, 5, 1, 1000);
        dueGone("row", x);
        x.axle(0, 1);
        dueGone("axle", x);
        x.size(1, 1, 1);
        dueGone("size as before", x);
        x.turn(0, 1, true);
        dueGone("turn as before", x);
        x.hours(1, 5, 5);
        dueGone("hours", x);
        x.slow(0, false);
        dueGone("slow as before", x);
        x.change(0, true);
        dueGone("change as before", x);
        refuseAll(x);
        dueRoads("what is refused leaves what was found", x, 0);
        due("what is refused leaves what was found", x.count(5), 1);
        due("record stays", x.record(0), 10);
    }

    private static void refuseAll(HeavyRoutes x) {
        due("refused road", x.road(0, 0, 1, 1, 1), BAD);
        due("refused bridge", x.bridge(0), BAD);
        due("refused row", x.row(0, 5, 1, 1000), false);
        due("refused axle", x.axle(0, 1), false);
        due("refused size", x.size(0, 1, 1), false);
        due("refused turn", x.turn(0, 0, true), false);
        due("refused hours", x.hours(0, 0, 1440), false);
        due("refused slow", x.slow(2, true), BAD);
        due("refused change", x.change(2, true), BAD);
        due("refused run", x.run(0, 0, 0), NONE);
        due("refused alternate", x.alternate(2, 1), NONE);
        due("refused convoy", x.convoy(0, 0), BAD);
    }

    private static void promise4Bridge() {
        HeavyRoutes x = withNodes(2);
        due("no road", x.bridge(0), BAD);
        for (int i = 0; i < 8; i++) {
            lay(x, 0, 1, 10);
        }
        due("no such road", x.bridge(8), BAD);
        due("no such road", x.bridge(-1), BAD);
        due("no such road", x.bridge(MIN) + x.bridge(MAX), 2 * BAD);
        for (int i = 0; i < 6; i++) {
            due("bridge " + i, x.bridge(7 - i), i);
            due("a second one", x.bridge(7 - i), BAD);
        }
        due("bridge 6", x.bridge(0), BAD);
        due("six bridges", x.count(2), 6);
        due("a new bridge's rating", x.rating(5, 0), 0);
        due("a new bridge's rating", x.rating(5, 1), 1);
        due("a new bridge bears", x.bars(0, 0), BAD);
    }

    private static void promise5Row() {
        HeavyRoutes x = withBridgeAndWay();
        long[][] wrong = {
            {1, 0, 0, 1}, {-1, 0, 0, 1}, {MIN, 0, 0, 1}, {0, -1, 0, 1}, {0, 61, 0, 1}, {0, 0, 1001, 1},
            {0, 0, -1001, 1}, {0, 0, 0, 0}, {0, 0, 0, 1001}, {0, 0, 0, -1}, {0, Long.MIN_VALUE, 0, 1},
            {0, 0, Long.MIN_VALUE, 1}, {0, 0, 0, Long.MIN_VALUE}, {0, 1L << 32, 0, 1}, {0, 0, 1L << 32, 1}};
        for (long[] r : wrong) {
            due("wrong corner", x.row((int) r[0], r[1], r[2], r[3]), false);
        }
        due("corner at 0", x.row(0, 0, -1000, 1), true);
        due("corner at the same place", x.row(0, 0, 1, 1), false);
        due("corner at 1", x.row(0, 1, 1000, 1000), true);
        due("corner behind the last one", x.row(0, 0, 1, 1), false);
        for (int i = 2; i < 5; i++) {
            due("corner " + i, x.row(0, 10 * i, 1, 1), true);
        }
        due("corner at 60", x.row(0, 60, 1000, 1), true);
        HeavyRoutes y = withBridgeAndWay();
        for (int i = 0; i < 6; i++) {
            due("corner " + i, y.row(0, i, 0, 1), true);
        }
        due("corner 6", y.row(0, 6, 0, 1), false);
        lay(y, 0, 1, 10);
        y.bridge(1);
        due("each bridge has its own row", y.row(1, 3, 0, 1), true);
    }

    private static void promise6Axle() {
        HeavyRoutes x = new HeavyRoutes();
        due("first one not 0 behind", x.axle(1, 5), false);
        due("first one not 0 behind", x.axle(-1, 5), false);
        due("load -1", x.axle(0, -1), false);
        due("load 1001", x.axle(0, 1001), false);
        due("load far off", x.axle(0, 1L << 32), false);
        due("load 0", x.axle(0, 0), true);
        due("0 behind", x.axle(0, 5), false);
        due("31 behind", x.axle(31, 5), false);
        due("far behind", x.axle((1L << 32) + 1, 5), false);
        due("far before", x.axle(Long.MIN_VALUE, 5), false);
        due("1 behind", x.axle(1, 1000), true);
        due("30 behind", x.axle(30, 5), true);
        due("three axles", x.count(3), 3);
        due("fourth", x.axle(2, 5), true);
        due("fifth", x.axle(2, 5), true);
        due("sixth", x.axle(2, 5), false);
        due("five axles", x.count(3), 5);
    }

    private static void promise7Size() {
        HeavyRoutes x = withNodes(2);
        x.road(0, 1, 10, 100, 200);
        int[][] wrong = {{0, 1, 1}, {10000, 1, 1}, {1, 0, 1}, {1, 10000, 1}, {1, 1, 0}, {1, 1, 201}, {MIN, MAX, MIN}};
        for (int[] s : wrong) {
            due("wrong size", x.size(s[0], s[1], s[2]), false);
        }
        due("1 at first", x.run(0, 1, 0), 10);
        due("least", x.size(1, 1, 1), true);
        due("as high and wide as the road", x.size(100, 200, 200), true);
        due("as high and wide as the road", x.run(0, 1, 0), 10);
        due("higher", x.size(101, 200, 1), true);
        due("higher", x.run(0, 1, 0), -1);
        due("wider", x.size(100, 201, 1), true);
        due("wider", x.run(0, 1, 0), -1);
        due("refused", x.size(1, 1, 0), false);
        due("refused changes nothing", x.run(0, 1, 0), -1);
        due("greatest", x.size(9999, 9999, 200), true);
        due("length counts for nothing", x.size(1, 1, 200), true);
        due("length counts for nothing", x.run(0, 1, 0), 10);
    }

    private static void promise8Turn() {
        HeavyRoutes x = withNodes(4);
        lay(x, 0, 1, 10);
        lay(x, 1, 2, 10);
        lay(x, 2, 3, 10);
        due("no node in common", x.turn(0, 2, false), false);
        due("the same", x.turn(1, 1, false), false);
        due("no such road", x.turn(0, 3, false), false);
        due("no such road", x.turn(3, 0, false), false);
        due("no such road", x.turn(-1, 0, true), false);
        due("no such road", x.turn(0, MIN, true), false);
        due("all pass at first", x.run(0, 2, 0), 20);
        due("does not pass", x.turn(0, 1, false), true);
        due("does not pass", x.run(0, 2, 0), -1);
        due("passes the other way", x.run(2, 0, 0), 20);
        due("a turn alone is barred", x.run(1, 3, 0), 20);
        due("passes again", x.turn(0, 1, true), true);
        due("passes again", x.run(0, 3, 0), 30);
        due("does not pass", x.turn(2, 1, false), true);
        due("does not pass", x.run(3, 0, 0), -1);
        due("passes the other way", x.run(0, 3, 0), 30);
        due("passes", x.turn(2, 1, true), true);
        due("passes", x.run(3, 0, 0), 30);
        HeavyRoutes y = withNodes(3);
        lay(y, 0, 1, 10);
        lay(y, 2, 1, 10);
        lay(y, 1, 2, 15);
        due("roads that share both nodes", y.turn(1, 2, false), true);
        due("another turn is left", y.run(0, 2, 0), 20);
        due("not the first road of a way", y.turn(0, 1, false) && y.turn(0, 2, true), true);
        due("by the other road", y.run(0, 2, 0), 25);
        due("common node at the second ends", y.run(1, 2, 0), 10);
    }

    private static void promise9Hours() {
        HeavyRoutes x = withNodes(2);
        lay(x, 0, 1, 10);
        int[][] wrong = {{1, 0, 0}, {-1, 0, 0}, {0, -1, 0}, {0, 1440, 0}, {0, 0, -1}, {0, 0, 1440}, {MAX, MIN, MAX}};
        for (int[] h : wrong) {
            due("wrong hours", x.hours(h[0], h[1], h[2]), false);
        }
        due("hours", x.hours(0, 100, 200), true);
        due("before", x.run(0, 1, 99), 10);
        due("it may be driven into them", x.run(0, 1, 95), 10);
        due("from that minute", x.run(0, 1, 100), 111);
        due("begun after them", x.begun(0), 201);
        due("in them", x.run(0, 1, 150), 61);
        due("that one too", x.run(0, 1, 200), 11);
        due("behind them", x.run(0, 1, 201), 10);
        due("on another day", x.run(0, 1, 1440 + 150), 61);
        due("on another day", x.begun(0), 1440 + 201);
        due("round midnight", x.hours(0, 1400, 20), true);
        due("before", x.run(0, 1, 1399), 10);
        due("from that minute", x.run(0, 1, 1400), 71);
        due("begun the next day", x.begun(0), 1440 + 21);
        due("at midnight", x.run(0, 1, 0), 31);
        due("at midnight", x.begun(0), 21);
        due("up to that minute", x.run(0, 1, 1440 + 20), 11);
        due("behind", x.run(0, 1, 21), 10);
        due("one minute", x.hours(0, 21, 21), true);
        due("one after the other", x.run(0, 1, 1420), 52);
        due("one after the other", x.begun(0), 1440 + 22);
        due("a fourth one", x.hours(0, 30, 30), false);
        due("a fourth one is not told", x.run(0, 1, 30), 10);
        due("the other way too", x.run(1, 0, 100), 111);
    }

    private static void promise9HoursAtTheDaysEnds() {
        HeavyRoutes x = withNodes(2);
        lay(x, 0, 1, 10);
        due("the last minute", x.hours(0, 1439, 1439), true);
        due("before the last minute", x.run(0, 1, 1438), 10);
        due("the last minute", x.run(0, 1, 1439), 11);
        due("the first minute", x.hours(0, 0, 0), true);
        due("the first minute", x.run(0, 1, 0), 11);
        due("both", x.run(0, 1, 1439), 12);
        HeavyRoutes y = withNodes(2);
        lay(y, 0, 1, 10);
        due("from the last to the first", y.hours(0, 1439, 0), true);
        due("from the last to the first", y.run(0, 1, 1439), 12);
        due("the second minute", y.run(0, 1, 1), 10);
    }

    private static void promise9HoursAllDay() {
        HeavyRoutes x = withNodes(2);
        lay(x, 0, 1, 10);
        lay(x, 0, 1, 300);
        x.hours(0, 1000, 499);
        x.hours(0, 400, 700);
        due("a gap is left", x.run(0, 1, 600), 111);
        dueRoads("a gap is left", x, 0);
        due("over the gap", x.run(0, 1, 1000), 300);
        dueRoads("over the gap", x, 1);
        x.hours(0, 701, 998);
        due("one minute is left", x.run(0, 1, 999), 10);
        due("one minute is left", x.count(6), 2);
        due("one minute is left, but far off", x.run(0, 1, 1000), 300);
        HeavyRoutes y = withNodes(2);
        lay(y, 0, 1, 10);
        y.hours(0, 1000, 499);
        y.hours(0, 400, 700);
        y.hours(0, 701, 999);
        due("barred all day by three", y.run(0, 1, 0), -1);
        due("barred all day is none", y.count(6), 0);
        due("but it bears", y.bars(0, 0), BAD);
        HeavyRoutes z = withNodes(2);
        lay(z, 0, 1, 10);
        z.hours(0, 0, 1439);
        due("barred all day", z.run(0, 1, 720), -1);
        lay(z, 0, 1, 20);
        z.hours(1, 720, 719);
        due("barred all day round midnight", z.run(0, 1, 720), -1);
        lay(z, 0, 1, 20);
        z.hours(2, 720, 718);
        due("barred but for a minute", z.run(0, 1, 720), 1439 + 20);
    }

    private static void promise10Rating() {
        HeavyRoutes x = withNodes(2);
        due("no bridge", x.rating(0, 0), BAD);
        x = rated(new long[][] {{20, 7, 10}}, new long[][] {});
        dueRating("no axles", x, 0, 1);
        due("no such bridge", x.rating(1, 0), BAD);
        due("no such bridge", x.rating(-1, 0), BAD);
        due("no such bridge", x.rating(MAX, 0), BAD);
        due("no such part", x.rating(0, 2), BAD);
        due("no such part", x.rating(0, -1), BAD);
        x = rated(new long[][] {}, new long[][] {{0, 5}});
        dueRating("no corners", x, 0, 1);
        x = rated(new long[][] {{20, 7, 10}}, new long[][] {{0, 2}, {5, 100}});
        dueRating("one corner, elsewhere 0", x, 70, 1);
        x = rated(new long[][] {{3, -1, 2}, {9, -1, 1}}, new long[][] {{0, 5}});
        dueRating("below 0", x, 0, 1);
        x = rated(new long[][] {{0, 4, 6}}, new long[][] {{0, 3}});
        dueRating("a whole number", x, 2, 1);
        x = rated(new long[][] {{0, 4, 6}}, new long[][] {{0, 1}});
        dueRating("least terms", x, 2, 3);
        x = rated(new long[][] {{0, 1000, 1}}, new long[][] {{0, 1000}});
        dueRating("greatest of one axle", x, 1000000, 1);
        x = rated(new long[][] {{0, 1, 1000}}, new long[][] {{0, 0}});
        dueRating("load 0", x, 0, 1);
    }

    private static void promise10RatingOfRows() {
        long[][] steep = {{0, 0, 1}, {10, 1, 1}, {12, 0, 1}};
        // The heavy axle at 10, the other one at 5 behind it, whichever way that is.
        dueRating("backward", rated(steep, new long[][] {{0, 1}, {5, 3}}), 7, 2);
        dueRating("forward", rated(steep, new long[][] {{0, 3}, {5, 1}}), 7, 2);
        long[][] gentle = {{0, 0, 1}, {2, 1, 1}, {12, 0, 1}};
        dueRating("forward, the last axle at a corner", rated(gentle, new long[][] {{0, 1}, {5, 3}}), 7, 2);
        dueRating("backward, the first axle at a corner", rated(gentle, new long[][] {{0, 3}, {5, 1}}), 7, 2);
        long[][] mixed = {{0, 1, 7}, {10, 5, 9}, {30, -2, 3}};
        dueRating("two axles", rated(mixed, new long[][] {{0, 2}, {4, 3}}), 257, 105);
        dueRating("three axles", rated(mixed, new long[][] {{0, 1}, {6, 5}, {30, 4}}), 108, 35);
        // One axle off the row, one at its end: the row is 0 beyond its corners.
        long[][] ends = {{10, 1, 2}, {20, 1, 3}};
        dueRating("off the row", rated(ends, new long[][] {{0, 1}, {11, 1}}), 1, 2);
        dueRating("from end to end", rated(ends, new long[][] {{0, 1}, {10, 1}}), 5, 6);
        HeavyRoutes x = rated(ends, new long[][] {{0, 1}});
        dueRating("before another axle", x, 1, 2);
        x.axle(5, 1);
        // At 10 and 15: 1 / 2 and 5 / 12.
        dueRating("after another axle", x, 11, 12);
        x.row(0, 25, 9, 10);
        // At 20 and 25: 1 / 3 and 9 / 10.
        dueRating("after another corner", x, 37, 30);
        due("refused", x.row(0, 25, 1, 1), false);
        dueRating("after a refused corner", x, 37, 30);
        x = rated(new long[][] {{0, -1, 1}, {10, 1, 1}, {20, -1, 1}}, new long[][] {{0, 1}});
        dueRating("before a relieving axle", x, 1, 1);
        x.axle(10, 1);
        dueRating("it falls", x, 0, 1);
    }

    private static void promise10RatingOfManyDigits() {
        // Worked with another program.
        dueDigits(
            new long[][] {{0, 1000, 997}, {7, 999, 991}, {16, 998, 983}, {27, 1000, 977}, {40, 997, 971}, {57, 989, 967}},
            new long[][] {{0, 991}, {9, 997}, {10, 1000}, {13, 983}, {20, 977}},
            "77886717213902061272937", "15423824656177888951");
        dueDigits(
            new long[][] {{9, 469, 929}, {24, -362, 977}, {29, 656, 971}, {31, 637, 967}, {42, 405, 937}, {57, -143, 911}},
            new long[][] {{0, 174}, {11, 515}, {8, 958}, {10, 353}, {1, 149}},
            "116386780061342837005582", "120032235287905556055");
        dueDigits(
            new long[][] {{1, -963, 919}, {27, 277, 947}, {28, 509, 941}, {40, -85, 997}, {43, -367, 983}, {57, -728, 937}},
            new long[][] {{0, 283}, {12, 764}, {4, 256}, {2, 794}, {9, 752}},
            "203251000573328137934711", "410616147056479253526");
    }

    private static void dueDigits(long[][] corners, long[][] axles, String upper, String lower) {
        HeavyRoutes x = rated(corners, axles);
        BigInteger eighteen = BigInteger.TEN.pow(18);
        dueRating("many digits", x, new BigInteger(upper).mod(eighteen).longValueExact(),
            new BigInteger(lower).mod(eighteen).longValueExact());
        due("its bridge bars, whatever the lowest digits are", x.bars(0, 1), 4);
    }

    private static void promise11Kept() {
        HeavyRoutes x = withWay();
        due("no bridge", x.kept(0), false);
        x.bridge(0);
        due("a new bridge", x.kept(0), true);
        due("no such bridge", x.kept(1), false);
        due("no such bridge", x.kept(-1), false);
        due("no such bridge", x.kept(MIN), false);
        for (int i = 0; i < 6; i++) {
            x.row(0, 10 * i, 1 + i, 3 + i);
            due("after a corner", x.kept(0), true);
            x.axle(i == 0 ? 0 : i, 10 + i);
            due("after an axle", x.kept(0), true);
        }
        x.run(0, 1, 0);
        due("it leaves what was found", x.count(5), x.rating(0, 0) <= x.rating(0, 1) ? 1 : 0);
        x.size(9, 9, 9);
        x.change(0, false);
        x.slow(0, true);
        due("after other calls", x.kept(0), true);
    }

    private static void promise12Run() {
        HeavyRoutes x = withNodes(3);
        lay(x, 0, 1, 10);
        due("no such node", x.run(0, 3, 0), NONE);
        due("no such node", x.run(3, 0, 0), NONE);
        due("no such node", x.run(-1, 0, 0), NONE);
        due("no such node", x.run(0, MIN, 0), NONE);
        due("both are one", x.run(1, 1, 0), NONE);
        due("minute", x.run(0, 1, -1), NONE);
        due("minute", x.run(0, 1, 10001), NONE);
        due("minute", x.run(0, 1, 10000), 10);
        due("minute", x.run(0, 1, 0), 10);
        due("nothing is changed", x.run(0, 1, 10001), NONE);
        dueRoads("nothing is changed", x, 0);
        due("nothing is changed", x.count(6), 1);
        due("there is none", x.run(0, 2, 0), -1);
        dueRoads("there is none at hand", x);
        due("there is none found", x.count(5), 0);
        due("there is none found", x.alternate(1, 1), NONE);
        lay(x, 0, 1, 12);
        x.run(0, 1, 0);
        x.alternate(1, 1);
        due("two are found", x.count(5), 2);
        due("run anew", x.run(0, 1, 0), 10);
        due("the only one that is found", x.count(5), 1);
        dueRoads("the way at hand", x, 0);
        HeavyRoutes y = withNodes(3);
        lay(y, 0, 1, 10);
        lay(y, 1, 2, 10);
        y.hours(1, 5, 99);
        due("it waits at a node", y.run(0, 2, 0), 110);
        due("it waits at a node", y.begun(1), 100);
    }

    private static void promise12BetterWay() {
        HeavyRoutes x = withNodes(3);
        lay(x, 0, 1, 10);
        lay(x, 1, 2, 10);
        lay(x, 0, 2, 21);
        x.bridge(0);
        x.bridge(1);
        due("the earlier one", x.run(0, 2, 0), 20);
        dueRoads("the earlier one, though of more bridges and roads", x, 0, 1);
        HeavyRoutes y = withNodes(3);
        lay(y, 0, 2, 20);
        lay(y, 0, 1, 10);
        lay(y, 1, 2, 10);
        y.bridge(0);
        y.run(0, 2, 0);
        dueRoads("fewer bridges, though more roads", y, 1, 2);
        y.bridge(1);
        y.run(0, 2, 0);
        dueRoads("as many bridges: fewer roads", y, 0);
        HeavyRoutes z = withNodes(3);
        lay(z, 0, 1, 10);
        lay(z, 1, 2, 10);
        lay(z, 0, 2, 20);
        z.run(0, 2, 0);
        dueRoads("fewer roads, though with a greater number", z, 2);
        HeavyRoutes w = withNodes(4);
        lay(w, 1, 3, 10);
        lay(w, 0, 2, 10);
        lay(w, 0, 1, 10);
        lay(w, 2, 3, 10);
        lay(w, 3, 1, 10);
        w.run(0, 3, 0);
        dueRoads("the lesser number where they differ first", w, 1, 3);
        due("the next one", w.alternate(1, 1), 20);
        dueRoads("the next one", w, 2, 0);
        due("the next one", w.alternate(1, 1), 20);
        dueRoads("the next one", w, 2, 4);
    }

    private static void promise12NoNodeTwice() {
        // From 0 by 1 to 3, where the turn from road 0 into road 1 does not pass: only round by 2 it would.
        HeavyRoutes x = withNodes(4);
        lay(x, 0, 1, 10);
        lay(x, 1, 3, 10);
        lay(x, 1, 2, 10);
        lay(x, 2, 1, 10);
        x.turn(0, 1, false);
        due("to no node twice", x.run(0, 3, 0), -1);
        due("to no node twice", x.count(6), 0);
        HeavyRoutes y = withNodes(7);
        for (int i = 0; i < 6; i++) {
            lay(y, i, i + 1, 600);
        }
        due("six roads", y.run(0, 6, 0), 3600);
        dueRoads("six roads", y, 0, 1, 2, 3, 4, 5);
        due("six roads back", y.run(6, 0, 0), 3600);
        dueRoads("six roads back", y, 5, 4, 3, 2, 1, 0);
        for (int i = 0; i < 6; i++) {
            lay(y, i + 1, i, 600);
        }
        y.run(0, 6, 0);
        due("two roads each", y.count(6), 64);
        dueRoads("two roads each", y, 0, 1, 2, 3, 4, 5);
    }

    private static void promise13Road2() {
        HeavyRoutes x = withWay();
        due("first", x.road2(0), 0);
        due("none such", x.road2(1), BAD);
        due("none such", x.road2(-1), BAD);
        due("none such", x.road2(MIN), BAD);
        due("none such", x.road2(MAX), BAD);
    }

    private static void promise14Begun() {
        HeavyRoutes x = withNodes(3);
        lay(x, 0, 1, 10);
        lay(x, 1, 2, 10);
        x.hours(0, 700, 709);
        x.run(0, 2, 1440 + 705);
        due("first", x.begun(0), 1440 + 710);
        due("second", x.begun(1), 1440 + 720);
        due("none such", x.begun(2), BAD);
        due("none such", x.begun(-1), BAD);
        due("none such", x.begun(MIN), BAD);
        due("none such", x.begun(MAX), BAD);
    }

    private static void promise15Bars() {
        HeavyRoutes x = withNodes(2);
        x.road(0, 1, 10, 100, 100);
        x.road(0, 1, 10, 99, 100);
        x.road(0, 1, 10, 100, 99);
        x.road(0, 1, 10, 100, 100);
        x.road(0, 1, 10, 99, 99);
        x.road(0, 1, 10, 99, 99);
        x.bridge(3);
        x.bridge(4);
        x.bridge(5);
        x.axle(0, 1);
        for (int b = 0; b < 3; b++) {
            x.row(b, 0, 1000, 999);
        }
        x.size(100, 100, 1);
        x.change(5, false);
        int[][] want = {{1, 2}, {2, 3}, {3, 4}, {4, 2}, {5, 1}};
        for (int k = 0; k < want.length; k++) {
            due("bars " + k, x.bars(k, 0), want[k][0]);
            due("bars " + k + " why", x.bars(k, 1), want[k][1]);
        }
        due("none such", x.bars(5, 0), BAD);
        due("none such", x.bars(-1, 0), BAD);
        due("none such", x.bars(MIN, 1), BAD);
        due("none such", x.bars(MAX, 1), BAD);
        due("none such", x.bars(0, 2), BAD);
        due("none such", x.bars(0, -1), BAD);
        due("only one road bears", x.run(0, 1, 0), 10);
        dueRoads("only one road bears", x, 0);
        due("bars leaves what was found", x.bars(0, 0), 1);
        due("bars leaves what was found", x.count(5), 1);
        HeavyRoutes y = rated(new long[][] {{0, 1, 5}}, new long[][] {{0, 5}});
        due("a rating of 1 bears", y.bars(0, 0), BAD);
        due("a rating of 1 bears", y.run(0, 1, 0), 10);
        y.row(0, 5, 201, 1000);
        due("a rating above 1 does not", y.bars(0, 1), 4);
        due("a rating above 1 does not", y.run(0, 1, 0), -1);
    }

    private static void promise16Alternate() {
        HeavyRoutes x = withFiveWays();
        due("before a run", x.alternate(1, 1), NONE);
        due("run", x.run(0, 3, 5), 20);
        long[][] wrong = {{1, 0}, {0, 0}, {2, 1}, {-1, 1}, {-1, -1}, {0, 101}, {101, 101}, {0, -1},
            {Long.MIN_VALUE, 1}, {0, Long.MAX_VALUE}, {0, 1L << 32}, {1L << 32, 1L << 32}, {-1, 100}};
        for (long[] f : wrong) {
            due("no such fraction", x.alternate(f[0], f[1]), NONE);
        }
        due("found", x.count(5), 1);
        due("the best one", x.alternate(100, 100), 26);
        dueRoads("the best one", x, 2, 3);
        due("begun", x.begun(1), 16);
        due("the next one", x.alternate(1, 1), 28);
        dueRoads("the next one", x, 2, 4, 1);
        due("the next one", x.alternate(1, 1), 32);
        dueRoads("the next one", x, 0, 4, 3);
        due("the last one", x.alternate(1, 1), 40);
        due("five are found", x.count(5), 5);
        due("five are", x.alternate(1, 1), NONE);
        dueRoads("the way at hand stays", x, 5);
        due("only run() is recorded", x.record(1), NONE);
        HeavyRoutes y = withWay();
        due("there is none", y.alternate(1, 1), -1);
        dueRoads("the way at hand stays", y, 0);
        due("the way at hand stays", y.count(5), 1);
        due("there is none again", y.alternate(0, 1), -1);
    }

    private static void promise16AlternateSharing() {
        HeavyRoutes x = withFiveWays();
        x.run(0, 3, 0);
        due("none shared", x.alternate(0, 1), 26);
        due("none shared", x.alternate(0, 100), 40);
        due("two times 49 / 100, cut off", x.alternate(49, 100), -1);
        dueRoads("the way at hand stays", x, 5);
        // The first one found counts, not the one at hand, which has one road only.
        due("two times 1 / 2", x.alternate(1, 2), 28);
        due("two times 99 / 100, cut off", x.alternate(99, 100), 32);
        due("five are", x.alternate(0, 1), NONE);
        HeavyRoutes y = withNodes(4);
        lay(y, 0, 1, 10);
        lay(y, 1, 2, 10);
        lay(y, 2, 3, 10);
        lay(y, 2, 3, 11);
        lay(y, 1, 2, 12);
        lay(y, 0, 1, 13);
        due("run", y.run(0, 3, 0), 30);
        due("three times 1 / 3", y.alternate(1, 3), 33);
        dueRoads("three times 1 / 3", y, 0, 4, 3);
        due("three times 2 / 3", y.alternate(2, 3), 31);
        dueRoads("three times 2 / 3", y, 0, 1, 3);
        due("three times 65 / 100", y.alternate(65, 100), 34);
        dueRoads("three times 65 / 100", y, 5, 1, 3);
        due("none shared", y.alternate(0, 3), 36);
        dueRoads("none shared", y, 5, 4, 3);
    }

    private static void promise16FiveAreFound() {
        HeavyRoutes x = withNodes(2);
        for (int i = 0; i < 7; i++) {
            lay(x, 0, 1, 10 + i);
        }
        x.run(0, 1, 0);
        for (int i = 1; i < 5; i++) {
            due("alternate " + i, x.alternate(0, 1), 10 + i);
            due("found", x.count(5), 1 + i);
        }
        due("five are", x.alternate(0, 1), NONE);
        dueRoads("the way at hand stays", x, 4);
        due("a new run", x.run(1, 0, 7), 10);
        due("a new run", x.alternate(0, 1), 11);
        due("from the minute of the last run", x.begun(0), 7);
        due("a refused run", x.run(0, 0, 0), NONE);
        due("between the nodes of the last run", x.alternate(0, 1), 12);
    }

    private static void promise17Slow() {
        HeavyRoutes x = withWay();
        due("no bridge", x.slow(0, true), BAD);
        x.bridge(0);
        due("none such", x.slow(1, true), BAD);
        due("none such", x.slow(-1, true), BAD);
        due("none such", x.slow(MIN, true), BAD);
        due("it was not", x.slow(0, true), 0);
        due("twice as many minutes", x.run(0, 1, 0), 20);
        due("it was", x.slow(0, true), 1);
        due("it was", x.slow(0, false), 1);
        due("as before", x.run(0, 1, 0), 10);
        due("it was not", x.slow(0, false), 0);
        lay(x, 0, 1, 15);
        x.bridge(1);
        due("one of two", x.slow(0, true), 0);
        due("another road is better", x.run(0, 1, 0), 15);
        dueRoads("another road is better", x, 1);
    }

    private static void promise18Convoy() {
        HeavyRoutes x = withNodes(3);
        lay(x, 0, 1, 10);
        lay(x, 1, 2, 10);
        due("no way", x.convoy(1, 0), BAD);
        x.hours(1, 40, 99);
        due("run", x.run(0, 2, 5), 20);
        int[][] wrong = {{0, 0}, {21, 0}, {-1, 0}, {1, -1}, {1, 601}, {MIN, MIN}, {MAX, MAX}};
        for (int[] c : wrong) {
            due("none such", x.convoy(c[0], c[1]), BAD);
        }
        due("one", x.convoy(1, 600), 20);
        due("one", x.convoy(1, 0), 20);
        due("all at once", x.convoy(20, 0), 20);
        due("the second one waits for nothing", x.convoy(2, 24), 44);
        due("the second one waits", x.convoy(2, 25), 105);
        due("the third one is last", x.convoy(3, 50), 120);
        due("twenty, the last one on another day", x.convoy(20, 600), 19 * 600 + 20);
        dueRoads("the way at hand stays", x, 0, 1);
        due("the way at hand is begun as before", x.begun(1), 15);
        x.run(0, 1, 0);
        x.hours(0, 1, 20);
        x.run(0, 2, 1);
        due("from the first one's minute, not from where it starts", x.convoy(1, 0), 20 + 20);
        HeavyRoutes y = withNodes(2);
        lay(y, 0, 1, 10);
        lay(y, 0, 1, 11);
        y.hours(0, 20, 99);
        y.run(0, 1, 0);
        due("by the roads of the way at hand, though another one is better", y.convoy(2, 50), 110);
        y.alternate(0, 1);
        due("by the roads of the way at hand", y.convoy(2, 50), 61);
    }

    private static void promise19Escort() {
        HeavyRoutes x = withNodes(5);
        due("no way", x.escort(0), BAD);
        x.road(3, 4, 10, 149, 150);
        x.road(2, 3, 10, 150, 149);
        x.road(1, 2, 10, 150, 150);
        x.road(0, 1, 10, 150, 150);
        x.size(100, 100, 1);
        x.bridge(2);
        x.bridge(3);
        x.axle(0, 3);
        x.row(0, 0, 1, 4);
        x.row(1, 0, 251, 1000);
        due("3 / 4 is not above", x.rating(0, 0), 3);
        due("run", x.run(0, 4, 0), 40);
        due("first: above 3 / 4", x.escort(0), 3);
        due("second: less than 50 wider", x.escort(1), 1);
        due("third: less than 50 higher", x.escort(2), 0);
        due("none such", x.escort(3), BAD);
        due("none such", x.escort(-1), BAD);
        due("none such", x.escort(MIN), BAD);
        due("none such", x.escort(MAX), BAD);
        due("back", x.run(4, 0, 0), 40);
        due("in the order of the way", x.escort(0), 0);
        due("in the order of the way", x.escort(2), 3);
    }

    private static void promise20Notice() {
        HeavyRoutes x = withNodes(4);
        due("no way", x.notice(0), BAD);
        lay(x, 2, 3, 10);
        lay(x, 1, 2, 10);
        lay(x, 0, 1, 10);
        x.bridge(0);
        x.bridge(2);
        x.run(0, 3, 0);
        due("first", x.notice(0), 1);
        due("second", x.notice(1), 0);
        due("none such", x.notice(2), BAD);
        due("none such", x.notice(-1), BAD);
        due("none such", x.notice(MIN), BAD);
        due("none such", x.notice(MAX), BAD);
        x.run(1, 2, 0);
        due("none on the way", x.notice(0), BAD);
    }

    private static void promise21Record() {
        HeavyRoutes x = withNodes(3);
        lay(x, 0, 1, 10);
        x.run(0, 2, 0);
        x.run(0, 0, 0);
        x.run(0, 1, 0);
        due("there was none", x.record(0), -1);
        due("NONE is not counted", x.record(1), 10);
        due("none such", x.record(2), NONE);
        due("none such", x.record(-1), NONE);
        due("none such", x.record(MIN), NONE);
        due("none such", x.record(MAX), NONE);
        lay(x, 0, 1, 7);
        for (int i = 2; i < 50; i++) {
            due("not yet", x.record(i), NONE);
            x.run(0, 1, i);
            due("record " + i, x.record(i), 7);
        }
        lay(x, 0, 1, 5);
        due("run 50", x.run(0, 1, 0), 5);
        due("the first 50 are kept", x.record(50), NONE);
        due("the first 50 are kept", x.record(49), 7);
        due("the first 50 are kept", x.record(0), -1);
    }

    private static void promise22Change() {
        HeavyRoutes x = withWay();
        due("none such", x.change(1, true), BAD);
        due("none such", x.change(-1, false), BAD);
        due("none such", x.change(MIN, false), BAD);
        due("it was open", x.change(0, false), 1);
        due("closed", x.run(0, 1, 0), -1);
        due("closed", x.bars(0, 1), 1);
        due("it was closed", x.change(0, false), 0);
        due("it was closed", x.change(0, true), 0);
        due("open", x.run(0, 1, 0), 10);
        due("it was open", x.change(0, true), 1);
        due("open", x.bars(0, 1), BAD);
    }

    private static void promise23Count() {
        HeavyRoutes x = withFiveWays();
        x.bridge(2);
        x.axle(0, 1);
        x.axle(3, 1);
        int[] want = {4, 6, 1, 2, 0, 0, 0};
        for (int what = 0; what < want.length; what++) {
            due("count " + what, x.count(what), want[what]);
        }
        due("another number", x.count(7), BAD);
        due("another number", x.count(-1), BAD);
        due("another number", x.count(MIN), BAD);
        due("another number", x.count(MAX), BAD);
        x.run(0, 3, 0);
        due("roads", x.count(4), 2);
        due("found", x.count(5), 1);
        due("ways", x.count(6), 5);
        x.alternate(1, 1);
        due("ways, found or not", x.count(6), 5);
        dueRoads("count leaves the way at hand", x, 2, 3);
        x.change(4, false);
        due("as they are now", x.count(6), 3);
        due("gone", x.count(4) + x.count(5), 0);
        x.turn(0, 1, false);
        due("as they are now", x.count(6), 2);
        x.hours(5, 0, 1439);
        due("as they are now", x.count(6), 1);
        due("refused", x.run(0, 9, 0), NONE);
        due("nodes of the last run that was not refused", x.count(6), 1);
        x.size(501, 1, 1);
        due("as they are now", x.count(6), 0);
        due("there is none", x.run(0, 1, 0), -1);
        x.size(1, 1, 1);
        due("between the nodes of the last run: by road 0, and by roads 2 3 1", x.count(6), 2);
    }
}
