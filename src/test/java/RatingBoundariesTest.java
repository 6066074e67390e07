/** Boundary cases of ratings: promises 10 and 11, and what the terms say of a rating. */
public final class RatingBoundariesTest extends Boundaries {
    public static void main(String[] args) {
        runAll(RatingBoundariesTest.class);
    }

    @Sentence(promise = 10, words = "A bridge's rating")
    static void withoutAxlesOrCorners() {
        long[][] none = {};
        dueRating("no corners, no axles", rated(none, none), 0, 1);
        dueRating("no corners", rated(none, new long[][] {{0, 1000}, {1, 1000}}), 0, 1);
        dueRating("no axles", rated(new long[][] {{0, 1000, 1}, {60, 1000, 1}}, none), 0, 1);
        dueRating("one of each", rated(new long[][] {{0, 1, 1}}, new long[][] {{0, 1}}), 1, 1);
        HeavyRoutes x = withRoads(1);
        x.axle(0, 1000);
        x.bridge(0);
        dueRating("a new bridge, the axles were there before", x, 0, 1);
        x.row(0, 7, 1, 3);
        dueRating("its first corner", x, 1000, 3);
    }

    @Sentence(promise = 10, words = "A bridge's rating")
    static void notBelow0() {
        dueRating("below 0", rated(new long[][] {{0, -1, 1000}}, new long[][] {{0, 1}}), 0, 1);
        dueRating("below 0 by far", rated(new long[][] {{0, -1000, 1}}, new long[][] {{0, 1000}}), 0, 1);
        dueRating("0", rated(new long[][] {{0, 0, 1000}}, new long[][] {{0, 1000}}), 0, 1);
        dueRating("just above 0", rated(new long[][] {{0, 1, 1000}}, new long[][] {{0, 1}}), 1, 1000);
        long[][] balanced = {{0, 1, 3}, {10, -1, 3}};
        // At 0 and 10 they cancel each other; apart, one alone is on the row.
        dueRating("one off the row", rated(balanced, new long[][] {{0, 1}, {10, 1}}), 1, 3);
        HeavyRoutes x = rated(balanced, new long[][] {{0, 0}, {5, 1}});
        x.row(0, 20, -1000, 1);
        dueRating("an axle without a load counts for nothing", x, 1, 3);
    }

    @Sentence(promise = 10, words = "A bridge's rating")
    static void theRowEndsAtItsFirstAndLastCorner() {
        long[][] level = {{10, 1, 1}, {20, 1, 1}};
        dueRating("both at the ends", rated(level, new long[][] {{0, 1}, {10, 1}}), 2, 1);
        dueRating("one beyond the end", rated(level, new long[][] {{0, 1}, {11, 1}}), 1, 1);
        dueRating("both within", rated(level, new long[][] {{0, 1}, {9, 1}}), 2, 1);
        dueRating("one corner", rated(new long[][] {{30, 1, 1}}, new long[][] {{0, 1}, {1, 1}}), 1, 1);
        dueRating("first place", rated(new long[][] {{0, 1, 1}}, new long[][] {{0, 1}, {30, 2}}), 2, 1);
        dueRating("last place", rated(new long[][] {{60, 1, 1}}, new long[][] {{0, 1}, {30, 2}}), 2, 1);
    }

    @Sentence(promise = 10, words = "A bridge's rating")
    static void onTheStraightLineBetweenTwoCorners() {
        // One axle at 60, where the row is 1, the other one at so many sixtieths.
        long[][] line = {{0, 0, 1}, {60, 1, 1}};
        dueRating("just below the upper corner", rated(line, new long[][] {{0, 1}, {1, 1}}), 119, 60);
        dueRating("half way", rated(line, new long[][] {{0, 1}, {30, 1}}), 3, 2);
        dueRating("just above the lower corner", rated(line, new long[][] {{0, 1}, {29, 0}, {30, 1}}), 61, 60);
        dueRating("at the lower corner", rated(line, new long[][] {{0, 1}, {30, 0}, {30, 1}}), 1, 1);
        long[][] sideBySide = {{59, 1, 7}, {60, 1, 9}};
        dueRating("corners side by side", rated(sideBySide, new long[][] {{0, 1}, {1, 1}}), 16, 63);
    }

    @Sentence(promise = 10, words = "A bridge's rating")
    static void forwardAndBackward() {
        // The heavy axle at 20, where the row is 1, the other one where it is 1 / 2, before it or behind it.
        long[][] before = {{10, 1, 2}, {20, 1, 1}, {30, 0, 1}};
        long[][] behind = {{10, 0, 1}, {20, 1, 1}, {30, 1, 2}};
        long[][] axles = {{0, 5}, {10, 4}};
        dueRating("forward", rated(before, axles), 7, 1);
        dueRating("backward", rated(behind, axles), 7, 1);
        long[][] heavyLast = {{0, 4}, {10, 5}};
        dueRating("backward, the last axle at the corner", rated(before, heavyLast), 7, 1);
        dueRating("forward, the last axle at the corner", rated(behind, heavyLast), 7, 1);
    }

    @Sentence(promise = 10, words = "A bridge's rating")
    static void onlyWhereAnAxleIsAtACorner() {
        // With the first axle just off the row, at -1, the second one would be at 15, where the row is 1: 10 in all.
        long[][] row = {{0, -100, 1}, {5, -100, 1}, {14, 0, 1}, {20, 6, 1}, {21, -100, 1}, {60, -100, 1}};
        dueRating("between them it would be greater", rated(row, new long[][] {{0, 1}, {16, 10}}), 0, 1);
    }

    @Sentence(promise = 10, words = "in least terms")
    static void inLeastTerms() {
        dueRating("lower is 1", rated(new long[][] {{0, 1000, 1000}}, new long[][] {{0, 1000}}), 1000, 1);
        dueRating("nothing to reduce", rated(new long[][] {{0, 999, 1000}}, new long[][] {{0, 1}}), 999, 1000);
        dueRating("by the load", rated(new long[][] {{0, 1, 1000}}, new long[][] {{0, 999}}), 999, 1000);
        dueRating("by the load", rated(new long[][] {{0, 1, 1000}}, new long[][] {{0, 998}}), 499, 500);
        dueRating("by the value", rated(new long[][] {{0, 500, 1000}}, new long[][] {{0, 1}}), 1, 2);
        dueRating("0", rated(new long[][] {{0, 0, 1000}}, new long[][] {{0, 1}}), 0, 1);
        long[][] halves = {{0, 1, 6}, {10, 1, 3}};
        dueRating("by the sum", rated(halves, new long[][] {{0, 1}, {10, 1}}), 1, 2);
        dueRating("by the line", rated(halves, new long[][] {{0, 1}, {5, 1}}), 7, 12);
        dueRating("a square below", rated(new long[][] {{0, 1, 4}, {8, 1, 2}}, new long[][] {{0, 1}, {1, 1}}), 31, 32);
    }

    @Sentence(promise = 10, words = "part 0 upper, 1 lower")
    static void theParts() {
        dueInts("part", Boundaries::rich, 0, 1, (x, part) -> x.rating(0, part), 11, 16, BAD);
        dueInts("part", Boundaries::rich, 0, 1, (x, part) -> x.rating(1, part), 0, 1, BAD);
        dueInts("part", Boundaries::rich, 0, 1, (x, part) -> x.rating(2, part), 2000, 1, BAD);
    }

    // The ratings below were worked out with another program.
    @Sentence(promise = 10, words = "(of each the lowest eighteen digits)")
    static void upperPartsOfEighteenDigitsAndOfMore() {
        dueRating("seventeen digits", rated(
            new long[][] {{0, -105, 862}, {23, 170, 819}, {24, 202, 560}, {28, 303, 975}, {37, 746, 676}, {53, 849, 681}},
            new long[][] {{0, 915}, {5, 795}, {8, 111}, {10, 767}, {13, 817}}),
            25823632055290339L, 9583368958800L);
        dueRating("eighteen digits, all told", rated(
            new long[][] {{1, 200, 825}, {2, 782, 538}, {21, 560, 855}, {30, 481, 929}, {36, 248, 549}, {54, 914, 742}},
            new long[][] {{0, 169}, {15, 203}, {9, 852}, {11, 486}, {11, 761}}),
            261241099064699381L, 110248502797314L);
        dueRating("nineteen digits, the first, a 1, not told", rated(
            new long[][] {{9, 869, 732}, {10, 799, 852}, {18, 450, 745}, {29, 361, 649}, {39, 762, 706}, {54, 100, 557}},
            new long[][] {{0, 387}, {3, 643}, {15, 512}, {14, 347}, {3, 92}}),
            333255165992497729L, 765481389143460L);
        dueRating("nineteen digits, 100 before the others", rated(
            new long[][] {{17, 366, 890}, {50, 247, 601}, {51, 453, 742}, {55, 588, 676}, {60, 947, 860}},
            new long[][] {{0, 783}, {12, 436}, {8, 670}, {6, 763}, {1, 281}}),
            4762729361574567L, 475890996480900L);
    }

    @Sentence(promise = 10, words = "(of each the lowest eighteen digits)")
    static void lowerPartsOfEighteenDigitsAndOfMore() {
        dueRating("seventeen digits", rated(
            new long[][] {{14, -114, 926}, {33, 58, 893}, {34, 784, 521}, {44, -35, 501}, {49, -185, 920}, {58, 933, 525}},
            new long[][] {{0, 613}, {2, 608}, {14, 9}, {7, 943}, {3, 982}}),
            450794905401968267L, 22008787488913400L);
        dueRating("eighteen digits, all told", rated(
            new long[][] {{15, 224, 779}, {18, 172, 529}, {21, -113, 705}, {37, 736, 662}, {38, 814, 811}, {42, 713, 970}},
            new long[][] {{0, 30}, {10, 103}, {11, 834}, {3, 498}}),
            680582833671010993L, 121038298962534960L);
        dueRating("nineteen digits, the first, a 1, not told", rated(
            new long[][] {{8, 252, 679}, {12, 846, 877}, {22, 717, 664}, {25, -164, 795}, {40, 235, 763}, {57, 117, 701}},
            new long[][] {{0, 925}, {12, 109}, {7, 668}, {13, 888}}),
            791873171424962351L, 531190693018835450L);
        dueRating("nineteen digits, 100 before the others", rated(
            new long[][] {{5, 381, 881}, {20, 245, 907}, {36, 286, 929}, {39, 16, 971}, {45, 6, 827}, {52, 117, 977}},
            new long[][] {{0, 1}, {4, 1}, {12, 0}, {14, 1}, {14, 1}}),
            207840684294543889L, 7646647861106960L);
    }

    @Sentence(promise = 10, words = "(of each the lowest eighteen digits)")
    static void manyDigitsWhereSomeAxlesRelieve() {
        dueRating("told whole", rated(
            new long[][] {{28, 162, 911}, {29, 575, 929}, {35, -106, 829}, {49, 523, 911}, {54, 187, 941}, {55, 328, 977}},
            new long[][] {{0, 191}, {6, 458}, {9, 146}, {6, 552}, {15, 43}}),
            13088281646645718L, 23107144983685L);
        dueRating("twenty digits", rated(
            new long[][] {{3, 66, 971}, {16, -191, 883}, {17, -240, 953}, {22, 557, 967}, {35, -270, 877}},
            new long[][] {{0, 922}, {8, 865}, {1, 914}, {4, 247}, {9, 40}}),
            941060774601807571L, 45041439119833715L);
        dueRating("twenty-one digits", rated(
            new long[][] {{6, 80, 877}, {17, 541, 821}, {18, -243, 811}, {25, 181, 887}, {38, -447, 853}},
            new long[][] {{0, 70}, {9, 787}, {6, 355}, {1, 927}, {4, 740}}),
            759070718940474908L, 442252537242372857L);
        dueRating("twenty-one digits", rated(
            new long[][] {{11, 437, 821}, {18, -171, 853}, {31, 190, 919}, {33, 369, 991}, {38, 330, 937}, {57, -225, 857}},
            new long[][] {{0, 218}, {8, 767}, {5, 71}, {9, 422}, {12, 256}}),
            136480036806163586L, 271914484028391295L);
        dueRating("nineteen digits, nine nines among them", rated(
            new long[][] {{0, 991, 997}, {1, 983, 991}, {2, -37, 983}, {3, 967, 977}, {4, 953, 971}},
            new long[][] {{0, 966}, {1, 921}, {1, 120}, {1, 705}, {1, 702}}),
            999999999799712404L, 921374363638847L);
    }

    @Sentence(promise = 10, words = "(of each the lowest eighteen digits)")
    static void theGreatestLoadsOnTheGreatestValues() {
        // Belows and gaps that have nothing in common: parts of twenty-six and of twenty-two digits.
        dueRating("by six belows and four gaps", rated(
            new long[][] {{0, 1000, 997}, {9, 1000, 991}, {19, 1000, 983}, {30, 1000, 977}, {43, 1000, 971}, {60, 1000, 967}},
            new long[][] {{0, 1000}, {14, 997}, {13, 996}, {14, 990}, {12, 993}}),
            735976290407748000L, 836987295513502357L);
        // Told by the common part of all effects, before it is brought to least terms, an effect has twenty-eight digits.
        dueRating("told whole in the end", rated(
            new long[][] {{0, 1000, 1000}, {9, 1000, 999}, {19, 1000, 997}, {30, 1000, 991}, {43, 1000, 983}, {60, 1000, 989}},
            new long[][] {{0, 1000}, {1, 1000}, {1, 1000}, {1, 1000}, {1, 1000}}),
            1082411103000000L, 212919647057L);
        dueRating("twenty-seven digits", rated(
            new long[][] {{0, 999, 1000}, {10, 997, 999}, {27, 995, 989}, {38, 999, 983}, {47, 993, 991}, {60, 996, 997}},
            new long[][] {{0, 997}, {10, 997}, {11, 997}, {8, 999}, {16, 995}}),
            900147307506939643L, 546795048448810000L);
    }

    @Sentence(promise = 10, words = "(of each the lowest eighteen digits)")
    static void theDigitsThatAreNotToldCountAllTheSame() {
        HeavyRoutes heavy = rated(
            new long[][] {{26, 859, 971}, {30, 471, 929}, {31, 351, 863}, {35, 166, 983}, {48, 201, 853}, {59, 680, 971}},
            new long[][] {{0, 965}, {2, 307}, {6, 163}, {12, 493}, {4, 754}});
        dueRating("1457, though the digits look like less than 1", heavy, 9439636647781717L, 373374210596577476L);
        due("its bridge does not bear", heavy.bars(0, 1), 4);
        HeavyRoutes light = rated(
            new long[][] {{13, 182, 937}, {21, 102, 877}, {29, 6, 829}, {35, 112, 983}, {50, 297, 941}, {54, 119, 827}},
            new long[][] {{0, 0}, {5, 1}, {14, 1}, {15, 1}, {12, 1}});
        dueRating("0.58, though the digits look like more than 1", light, 908427058517166104L, 563376646845227003L);
        due("its bridge bears", light.bars(0, 1), BAD);
        light.run(0, 1, 0);
        due("no escort", light.escort(0), BAD);
        HeavyRoutes middle = rated(
            new long[][] {{8, 183, 983}, {10, 241, 941}, {36, 35, 863}, {39, 228, 829}, {49, 384, 991}, {51, 97, 853}},
            new long[][] {{0, 1}, {12, 1}, {12, 1}, {10, 1}, {8, 1}});
        dueRating("0.99, though the digits look like less than 3 / 4", middle, 174930191214302149L, 723455334090439190L);
        due("its bridge bears", middle.bars(0, 1), BAD);
        middle.run(0, 1, 0);
        due("an escort", middle.escort(0), 0);
    }

    @Sentence(promise = 10, words = "BAD: none such.")
    static void theRatedBridge() {
        dueInts("bridge", Boundaries::rich, 0, 2, (x, bridge) -> x.rating(bridge, 0), 11, 2000, BAD);
        dueInts("bridge", Boundaries::rich, 0, 2, (x, bridge) -> x.rating(bridge, 1), 16, 1, BAD);
        dueInts("bridge", () -> withBridges(6), 0, 5, (x, bridge) -> x.rating(bridge, 1), 1, 1, BAD);
        dueRefused("without bridges", () -> withRoads(1), x -> x.rating(0, 0), BAD);
    }

    @Sentence(promise = 10, words = "A bridge's rating")
    static void eachBridgeHasItsOwn() {
        HeavyRoutes x = full();
        for (int bridge = 0; bridge < 6; bridge++) {
            due("in a full net they are alike, upper", x.rating(bridge, 0), x.rating(0, 0));
            due("in a full net they are alike, lower", x.rating(bridge, 1), x.rating(0, 1));
        }
        HeavyRoutes y = withBridges(6);
        y.axle(0, 1);
        for (int bridge = 0; bridge < 6; bridge++) {
            y.row(bridge, 0, 1, 2 + bridge);
        }
        for (int bridge = 0; bridge < 6; bridge++) {
            due("lower", y.rating(bridge, 1), 2 + bridge);
        }
        y.axle(1, 2);
        for (int bridge = 0; bridge < 6; bridge++) {
            due("an axle counts for all", y.rating(bridge, 0) * (2 + bridge), 2 * y.rating(bridge, 1));
        }
    }

    @Sentence(promise = 11, words = "False also: none such.")
    static void theKeptBridge() {
        dueInts("bridge", Boundaries::rich, 0, 2, (x, bridge) -> bit(x.kept(bridge)), 1, 1, 0);
        dueInts("bridge", () -> withBridges(6), 0, 5, (x, bridge) -> bit(x.kept(bridge)), 1, 1, 0);
        dueRefused("without bridges", () -> withRoads(1), x -> bit(x.kept(0)), 0);
    }

    @Sentence(promise = 11, words = "(by axles and rows, until they change)")
    static void keptThroughAllChanges() {
        HeavyRoutes x = withBridges(2);
        dueKept("empty", x);
        for (int i = 0; i <= 6; i++) {
            due("corner", x.row(0, 10 * i, 7 - i, 11 + i), i < 6);
            dueKept("after a corner, or a refused one", x);
            due("axle", x.axle(i, 3 + i), i < 5);
            dueKept("after an axle, or a refused one", x);
        }
        x.row(1, 5, 1, 9);
        dueKept("after a corner of another bridge", x);
    }

    private static void dueKept(String what, HeavyRoutes x) {
        due(what + ": the first bridge", x.kept(0), true);
        due(what + ": the second bridge", x.kept(1), true);
    }

    @Sentence(promise = 11, words = "(by axles and rows, until they change)")
    static void keptWhateverElseChanges() {
        HeavyRoutes x = full();
        long upper = x.rating(3, 0);
        x.size(9, 9, 9);
        x.turn(0, 1, false);
        x.slow(3, true);
        x.change(3, false);
        x.run(6, 0, 10000);
        x.kept(3);
        due("the rating stays", x.rating(3, 0), upper);
        for (int bridge = 0; bridge < 6; bridge++) {
            due("kept", x.kept(bridge), true);
        }
        HeavyRoutes asked = full();
        asked.kept(0);
        asked.kept(5);
        dueAlike("kept() changes nothing", asked, full());
    }
}
