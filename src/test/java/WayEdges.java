/** Promises 37 to 40: ways, crowds and the least time at the ends of what they take. */
final class WayEdges {
    private static final int LEAST = Integer.MIN_VALUE;
    private static final int MOST = Integer.MAX_VALUE;

    private WayEdges() {
    }

    static void run() {
        Check.promise(37);
        wayNone();
        wayEnds();
        twentyWays();
        Check.promise(38);
        crowdNone();
        crowdEnds();
        Check.promise(39);
        clearing();
        Check.promise(40);
        nobody();
        noWay();
        justFifty();
        capacity();
        waitingPays();
        allNodes();
        noneAheadOfTime();
    }

    private static void wayNone() {
        StageHouse x = new StageHouse();
        x.crowd(0, 1);
        int[][] none = {{-1, 11, 1, 1}, {12, 11, 1, 1}, {LEAST, 11, 1, 1}, {MOST, 11, 1, 1}, {0, -1, 1, 1}, {0, 12, 1, 1}, {0, LEAST, 1, 1},
            {0, MOST, 1, 1}, {0, 0, 1, 1}, {10, 10, 1, 1}, {11, 11, 1, 1}, {0, 11, 0, 1}, {0, 11, -1, 1}, {0, 11, 51, 1}, {0, 11, LEAST, 1},
            {0, 11, MOST, 1}, {0, 11, 1, 0}, {0, 11, 1, -1}, {0, 11, 1, 21}, {0, 11, 1, LEAST}, {0, 11, 1, MOST}};
        for (int[] way : none) {
            Check.due("way " + java.util.Arrays.toString(way), x.way(way[0], way[1], way[2], way[3]), -1);
        }
        Check.due("no way came of it", x.empty(), -1);
        Check.due("the first number is free", x.way(0, 11, 1, 1), 0);
        Check.due("now there is one", x.empty(), 1);
    }

    private static void wayEnds() {
        StageHouse x = new StageHouse();
        Check.due("the least numbers", x.way(0, 11, 1, 1), 0);
        Check.due("the greatest numbers", x.way(10, 11, 50, 20), 1);
        Check.due("to the first node", x.way(10, 0, 1, 1), 2);
        Check.due("two alike", x.way(0, 11, 1, 1), 3);
        x.crowd(10, 50);
        Check.due("50 at once", x.empty(), 20);
        x.crowd(10, 60);
        Check.due("some by the first node", x.empty(), 20);
    }

    private static void twentyWays() {
        StageHouse x = new StageHouse();
        x.crowd(0, 20);
        for (int w = 0; w < 20; w++) {
            Check.due("way " + w, x.way(0, 11, 1, 1), w);
        }
        Check.due("20 by 20 ways", x.empty(), 1);
        Check.due("no more ways", x.way(0, 11, 1, 1), -1);
        Check.due("nor another one", x.way(1, 2, 1, 1), -1);
        x.crowd(0, 21);
        Check.due("21 by 20 ways", x.empty(), 2);
        StageHouse y = new StageHouse();
        y.crowd(3, 1);
        for (int w = 0; w < 19; w++) {
            y.way(0, 11, 1, 1);
        }
        Check.due("no way yet", y.empty(), -1);
        Check.due("the last one", y.way(3, 11, 1, 20), 19);
        Check.due("counts", y.empty(), 20);
    }

    private static void crowdNone() {
        StageHouse x = new StageHouse();
        x.way(0, 11, 1, 1);
        x.way(10, 11, 1, 1);
        x.crowd(0, 2);
        int[] noNode = {-1, 11, 12, LEAST, MOST};
        int[] noMany = {-1, 61, LEAST, MOST};
        for (int node : noNode) {
            Check.no("node " + node, x.crowd(node, 5));
        }
        for (int many : noMany) {
            Check.no("many " + many, x.crowd(0, many));
            Check.no("many " + many, x.crowd(10, many));
        }
        Check.due("as it was", x.empty(), 2);
    }

    private static void crowdEnds() {
        StageHouse x = new StageHouse();
        x.way(0, 11, 3, 1);
        x.way(10, 11, 3, 1);
        Check.yes("60 at the first", x.crowd(0, 60));
        Check.due("20 ticks", x.empty(), 20);
        Check.yes("told anew", x.crowd(0, 3));
        Check.due("no sum of both", x.empty(), 1);
        Check.yes("60 at the last", x.crowd(10, 60));
        Check.due("20 ticks there", x.empty(), 20);
        Check.yes("none", x.crowd(10, 0));
        Check.due("as without", x.empty(), 1);
        Check.yes("none at the first", x.crowd(0, 0));
        Check.due("nobody", x.empty(), 0);
    }

    private static void clearing() {
        StageHouse x = new StageHouse();
        x.clearWays();
        Check.due("nothing to clear", x.empty(), 0);
        for (int node = 0; node < 11; node++) {
            x.crowd(node, 60);
            x.way(node, 11, 50, 1);
        }
        for (int w = 11; w < 20; w++) {
            x.way(0, 1, 1, 1);
        }
        Check.due("full", x.way(0, 1, 1, 1), -1);
        Check.due("all by 2", x.empty(), 2);
        x.clearWays();
        Check.due("no crowds", x.empty(), 0);
        for (int node = 0; node < 11; node++) {
            x.crowd(node, 1);
            Check.due("no way from " + node, x.empty(), -1);
            x.crowd(node, 0);
        }
        Check.due("numbers from 0 on", x.way(0, 11, 1, 4), 0);
        x.crowd(0, 2);
        Check.due("by the new way", x.empty(), 5);
        Check.due("no time went by", x.told(5), 0);
        x.clearWays();
        x.way(1, 11, 1, 1);
        x.way(0, 11, 1, 20);
        x.crowd(0, 2);
        Check.due("nothing is left of the old ways", x.empty(), 21);
    }

    private static void nobody() {
        StageHouse x = new StageHouse();
        Check.due("nobody, no ways", x.empty(), 0);
        x.way(0, 11, 1, 20);
        Check.due("nobody, a way", x.empty(), 0);
        x.crowd(0, 1);
        Check.due("one", x.empty(), 20);
        x.crowd(0, 0);
        Check.due("nobody again", x.empty(), 0);
        x.tick(500);
        Check.due("whenever it is asked", x.empty(), 0);
    }

    private static void noWay() {
        StageHouse x = new StageHouse();
        x.crowd(5, 1);
        Check.due("no way at all", x.empty(), -1);
        Check.due("outside is a node too", x.way(11, 5, 1, 1), 0);
        x.way(5, 6, 1, 1);
        x.way(6, 5, 1, 1);
        Check.due("none that leads outside", x.empty(), -1);
        x.way(6, 11, 1, 1);
        Check.due("now there is", x.empty(), 2);
        x.crowd(4, 1);
        Check.due("another one has none", x.empty(), -1);
    }

    private static void justFifty() {
        int[][] lasts = {{9, 49}, {10, 50}, {11, -1}};
        for (int[] last : lasts) {
            StageHouse x = new StageHouse();
            x.way(0, 1, 1, 20);
            x.way(1, 2, 1, 20);
            x.way(2, 11, 1, last[0]);
            x.crowd(0, 1);
            Check.due("40 and " + last[0], x.empty(), last[1]);
        }
        int[][] crowds = {{30, 49}, {31, 50}, {32, -1}};
        for (int[] crowd : crowds) {
            StageHouse y = new StageHouse();
            y.way(0, 11, 1, 20);
            y.crowd(0, crowd[0]);
            Check.due(crowd[0] + " one by one", y.empty(), crowd[1]);
        }
        StageHouse z = new StageHouse();
        z.way(0, 1, 50, 1);
        z.way(1, 11, 1, 1);
        z.crowd(0, 49);
        Check.due("49 behind one another", z.empty(), 50);
        z.crowd(1, 1);
        Check.due("one who is ahead", z.empty(), 50);
        z.crowd(1, 2);
        Check.due("two are too many", z.empty(), -1);
    }

    private static void capacity() {
        int[][] runs = {{50, 50, 1}, {50, 51, 2}, {50, 60, 2}, {30, 60, 2}, {29, 60, 3}, {1, 1, 1}, {1, 2, 2}, {7, 49, 7}, {7, 50, 8}};
        for (int[] run : runs) {
            StageHouse x = new StageHouse();
            x.way(0, 11, run[0], 1);
            x.crowd(0, run[1]);
            Check.due(run[1] + " by " + run[0], x.empty(), run[2]);
        }
    }

    /** A short way that is narrow against a long one that is wide. */
    private static void waitingPays() {
        int[][] runs = {{1, 1}, {18, 18}, {19, 19}, {20, 20}, {60, 20}};
        for (int[] run : runs) {
            StageHouse x = new StageHouse();
            x.way(0, 11, 1, 1);
            x.way(0, 11, 50, 20);
            x.crowd(0, run[0]);
            Check.due(run[0] + " by a narrow way and a long one", x.empty(), run[1]);
        }
    }

    private static void allNodes() {
        StageHouse x = new StageHouse();
        for (int node = 0; node < 11; node++) {
            x.way(node, node + 1, 50, 4);
            x.crowd(node, 4);
        }
        Check.due("44 in a chain", x.empty(), 44);
        for (int node = 0; node < 11; node++) {
            x.crowd(node, 60);
        }
        Check.due("660, ten of each node a tick behind", x.empty(), 45);
        StageHouse y = new StageHouse();
        for (int node = 0; node < 11; node++) {
            y.way(node, 11, 2, 1);
            y.crowd(node, 60);
        }
        Check.due("all beside one another", y.empty(), 30);
    }

    /**
     * By 3, three can begin at node 0 in tick 0 and one each in ticks 1 and 2: five of six. Who comes from node 1 in
     * tick 1 can't begin in tick 0, though the wide way has room there.
     */
    private static void noneAheadOfTime() {
        StageHouse x = new StageHouse();
        x.way(0, 11, 1, 1);
        x.way(0, 1, 2, 2);
        x.way(1, 0, 2, 1);
        x.way(0, 11, 3, 3);
        x.crowd(0, 3);
        x.crowd(1, 3);
        Check.due("six by two ways of one node", x.empty(), 4);
        x.crowd(1, 2);
        Check.due("five of them", x.empty(), 3);
    }
}
