/** Promises 18 to 24: axes, faults, stop, events and ticks at the ends of what they take. */
final class AxisEdges {
    private static final int LEAST = Integer.MIN_VALUE;
    private static final int MOST = Integer.MAX_VALUE;

    private AxisEdges() {
    }

    static void run() {
        Check.promise(18);
        axisNone();
        axisEnds();
        axisRefusedStays();
        axisAnew();
        Check.promise(19);
        toNone();
        toEnds();
        toRefusedByEach();
        toTarget();
        letEdges();
        Check.promise(20);
        axisAtNone();
        locksAtTheirBounds();
        stillEdges();
        Check.promise(21);
        faultsNone();
        faultsEach();
        deadOnItsWay();
        slowHalves();
        Check.promise(22);
        stopEdges();
        Check.promise(23);
        eventEnds();
        Check.promise(24);
        tickNone();
        brakes();
        turnsAtRest();
        beyondTheTarget();
        withoutTarget();
        lockLost();
        orderWithin();
        holdsOver();
        longTick();
    }

    private static void axisNone() {
        StageHouse x = new StageHouse();
        int[][] none = {{-1, 0, 1, 1, 1}, {8, 0, 1, 1, 1}, {LEAST, 0, 1, 1, 1}, {MOST, 0, 1, 1, 1}, {0, -1, 1, 1, 1}, {0, LEAST, 1, 1, 1},
            {0, 0, 100000, 1, 1}, {0, 0, MOST, 1, 1}, {0, 99999, 100000, 1, 1}, {0, 100000, 100001, 1, 1}, {0, 0, 0, 1, 1},
            {0, 5, 5, 1, 1}, {0, 6, 5, 1, 1}, {0, 99999, 99999, 1, 1}, {0, 5, -1, 1, 1}, {0, 0, 1, 0, 1}, {0, 0, 1, 1000, 1},
            {0, 0, 1, -1, 1}, {0, 0, 1, 1, 0}, {0, 0, 1, 1, 1000}, {0, 0, 1, 1, -1}, {0, 0, 1, LEAST, 1}, {0, 0, 1, 1, MOST}};
        for (int[] a : none) {
            Check.no("axis " + java.util.Arrays.toString(a), x.axis(a[0], a[1], a[2], a[3], a[4]));
        }
        for (int n = 0; n < 8; n++) {
            Check.due("none is there", x.axisAt(n, 0), 0);
        }
    }

    private static void axisEnds() {
        StageHouse x = new StageHouse();
        Check.yes("the widest, the fastest", x.axis(0, 0, 99999, 999, 999));
        Check.yes("the narrowest, the slowest", x.axis(7, 99998, 99999, 1, 1));
        Check.yes("narrow at 0", x.axis(3, 0, 1, 1, 1));
        int[] places = {0, -1, -1, 0, -1, -1, -1, 99998};
        for (int n = 0; n < 8; n++) {
            Check.due("place of " + n, x.axisAt(n, 1), places[n]);
            Check.due("seen place of " + n, x.axisAt(n, 4), places[n]);
        }
        x.to(0, 99999);
        x.to(7, 99999);
        x.to(3, 1);
        x.tick(1);
        Check.due("999 in a tick", x.axisAt(0, 1), 999);
        Check.due("1 in a tick", x.axisAt(7, 1), 99999);
        Check.due("1 in a tick too", x.axisAt(3, 1), 1);
        x.tick(101);
        Check.due("at the far end", x.axisAt(0, 1), 99999);
        Check.due("rests", x.axisAt(0, 2), 0);
        Check.due("no target", x.axisAt(0, 3), -1);
    }

    private static void axisRefusedStays() {
        StageHouse x = new StageHouse();
        x.axis(0, 10, 100, 20, 4);
        x.faults(0, 4);
        x.to(0, 90);
        x.tick(2);
        Check.no("low as high", x.axis(0, 10, 10, 5, 5));
        Check.no("speed 0", x.axis(0, 10, 20, 0, 5));
        Check.no("acc 1000", x.axis(0, 10, 20, 5, 1000));
        int[] want = {1, 22, 8, 90, 22, 4, 1, 0};
        for (int what = 0; what < 8; what++) {
            Check.due("as it was " + what, x.axisAt(0, what), want[what]);
        }
        x.tick(1);
        Check.due("half of its speed as it was", x.axisAt(0, 2), 10);
        Check.yes("its high as it was", x.to(0, 100));
    }

    private static void axisAnew() {
        StageHouse x = new StageHouse();
        Check.lock(x, 0, "event 1");
        x.to(0, 1);
        x.event(1, true);
        x.axis(0, 0, 100, 20, 4);
        x.to(0, 100);
        x.tick(2);
        x.faults(0, 6);
        Check.yes("anew", x.axis(0, 30, 50, 9, 9));
        int[] want = {1, 30, 0, -1, 30, 0, 1, 1};
        for (int what = 0; what < 8; what++) {
            Check.due("anew " + what, x.axisAt(0, what), want[what]);
        }
        x.event(1, false);
        Check.due("its lock as it was", x.axisAt(0, 6), 0);
        Check.lock(x, 1, "still 0");
        Check.due("still, though it moved", x.axisAt(1, 6), 1);
        Check.no("its lock holds it", x.to(0, 40));
        x.event(1, true);
        Check.no("its new low", x.to(0, 29));
        Check.no("its new high", x.to(0, 51));
        Check.due("refused goes on", x.axisAt(0, 7), 4);
    }

    private static void toNone() {
        StageHouse x = new StageHouse();
        for (int n = 0; n < 8; n++) {
            x.axis(n, 0, 10, 1, 1);
        }
        int[] none = {-1, 8, LEAST, MOST};
        for (int n : none) {
            Check.no("axis " + n, x.to(n, 5));
            Check.due("of none", x.told(6), 0);
        }
        for (int n = 0; n < 8; n++) {
            Check.due("no target of " + n, x.axisAt(n, 3), -1);
        }
    }

    private static void toEnds() {
        StageHouse x = new StageHouse();
        x.axis(0, 10, 20, 5, 5);
        x.axis(7, 0, 99999, 5, 5);
        int[] refused = {9, 21, 0, -1, LEAST, MOST};
        Check.yes("low", x.to(0, 10));
        for (int p : refused) {
            Check.no("to " + p, x.to(0, p));
            Check.due("the target stays", x.axisAt(0, 3), 10);
        }
        Check.yes("high", x.to(0, 20));
        Check.due("is the target", x.axisAt(0, 3), 20);
        Check.due("refused", x.axisAt(0, 7), 6);
        Check.yes("the least place", x.to(7, 0));
        Check.no("below", x.to(7, -1));
        Check.yes("the greatest place", x.to(7, 99999));
        Check.no("above", x.to(7, 100000));
        Check.due("refused by each", x.axisAt(7, 7), 2);
        Check.due("refused by all", x.told(6), 8);
    }

    /** Each of the things that refuse, alone; then none of them. */
    private static void toRefusedByEach() {
        StageHouse x = new StageHouse();
        Check.no("not there", x.to(2, 5));
        x.axis(2, 0, 10, 5, 5);
        x.faults(2, 1);
        Check.no("dead", x.to(2, 5));
        x.faults(2, 7);
        Check.no("dead and more", x.to(2, 5));
        x.faults(2, 6);
        Check.yes("blind and slow are no hindrance", x.to(2, 5));
        x.stop(true);
        Check.no("stop", x.to(2, 5));
        x.stop(false);
        Check.lock(x, 2, "event 3");
        Check.no("lock", x.to(2, 5));
        x.event(3, true);
        Check.yes("none of them", x.to(2, 5));
        Check.due("refused", x.axisAt(2, 7), 5);
        Check.list(x, 0, "cue 1 { axis 2 to 11; axis 2 to 10; axis 7 to 0; }");
        x.go(0);
        Check.due("an act counts as well", x.axisAt(2, 7), 6);
        Check.due("of one that is not there too", x.axisAt(7, 7), 1);
        Check.due("the act's target", x.axisAt(2, 3), 10);
        Check.due("all together", x.told(6), 7);
    }

    private static void toTarget() {
        StageHouse x = new StageHouse();
        x.axis(0, 10, 20, 5, 5);
        Check.yes("where it is", x.to(0, 10));
        Check.due("a target", x.axisAt(0, 3), 10);
        x.tick(0);
        Check.due("as long as there is no tick", x.axisAt(0, 3), 10);
        x.tick(1);
        Check.due("not any more", x.axisAt(0, 3), -1);
        Check.due("at its place", x.axisAt(0, 1), 10);
    }

    /** let of one that is there, with a target or without, and of one that is not there. */
    private static void letEdges() {
        StageHouse x = new StageHouse();
        Check.list(x, 0, "cue 1 { let 0; let 7; let 3; axis 3 to 5; } cue 2 { axis 0 to 9; let 0; axis 7 to 9; let 7; axis 7 to 8; }");
        x.axis(0, 0, 100, 4, 2);
        x.axis(7, 0, 100, 4, 2);
        x.to(0, 100);
        x.tick(2);
        x.go(0);
        Check.due("no target", x.axisAt(0, 3), -1);
        Check.due("none as before", x.axisAt(7, 3), -1);
        Check.due("not there", x.axisAt(3, 0), 0);
        Check.due("refused by the act behind", x.told(6), 1);
        x.tick(1);
        Check.due("comes to rest", x.axisAt(0, 2), 2);
        x.go(0);
        Check.due("in order", x.axisAt(0, 3), -1);
        Check.due("in order too", x.axisAt(7, 3), 8);
        actsAlone();
    }

    /** Each act does what it is told and nothing of the others' kinds, though they bear one number. */
    private static void actsAlone() {
        String[] acts = {"axis 1 to 5", "let 1", "fire 1", "go 1 1", "master 1 at 9", "channels 1 at 9"};
        for (int i = 0; i < acts.length; i++) {
            StageHouse x = new StageHouse();
            x.axis(1, 0, 100, 4, 2);
            x.to(1, 50);
            Check.lock(x, 0, "event 1");
            Check.list(x, 1, "cue 1 { }");
            Check.list(x, 0, "cue 1 { " + acts[i] + "; }");
            x.go(0);
            Check.due("target behind " + acts[i], x.axisAt(1, 3), i == 0 ? 5 : i == 1 ? -1 : 50);
            Check.due("event behind " + acts[i], x.axisAt(0, 6), i == 2 ? 1 : 0);
            Check.due("cue behind " + acts[i], x.of(1, 0), i == 3 ? 100 : 0);
            Check.due("master behind " + acts[i], x.of(1, 3), i == 4 ? 9 : 255);
            Check.due("level behind " + acts[i], x.level(0, 1), i == 5 ? 9 : 0);
            Check.due("level of the other list behind " + acts[i], x.level(1, 1), 0);
            Check.due("refused behind " + acts[i], x.told(6), 0);
        }
    }

    private static void axisAtNone() {
        StageHouse x = new StageHouse();
        int[] none = {-1, 8, LEAST, MOST};
        int[] absent = {0, -1, -1, -1, -1, -1, 1, 0};
        for (int what = 0; what < 8; what++) {
            for (int n : none) {
                Check.due("axis " + n, x.axisAt(n, what), -1);
            }
            Check.due("not there, " + what, x.axisAt(7, what), absent[what]);
        }
        x.axis(0, 5, 9, 1, 1);
        int[] present = {1, 5, 0, -1, 5, 0, 1, 0};
        for (int what = 0; what < 8; what++) {
            Check.due("there, " + what, x.axisAt(0, what), present[what]);
        }
        for (int what : none) {
            Check.due("what " + what, x.axisAt(0, what), -1);
            Check.due("not there, what " + what, x.axisAt(7, what), -1);
        }
        Check.lock(x, 7, "event 1");
        x.to(7, 1);
        Check.due("a lock of one that is not there", x.axisAt(7, 6), 0);
        Check.due("refused of one that is not there", x.axisAt(7, 7), 1);
    }

    private static void locksAtTheirBounds() {
        StageHouse x = new StageHouse();
        x.axis(0, 0, 99999, 999, 999);
        x.axis(7, 99998, 99999, 1, 1);
        String[] texts = {"axis 0 < 0", "axis 0 < 1", "axis 0 > 0", "axis 7 < 99998", "axis 7 < 99999", "axis 7 > 99998", "axis 7 > 99997",
            "axis 7 > 99999", "axis 7 < 0", "axis 0 > 99999", "axis 1 < 99999", "axis 1 > 0", "!axis 1 > 0", "still 1", "still 0"};
        int[] want = {0, 1, 0, 0, 1, 0, 1, 0, 0, 0, 0, 0, 1, 1, 1};
        for (int i = 0; i < texts.length; i++) {
            Check.lock(x, 3, texts[i]);
            Check.due(texts[i], x.axisAt(3, 6), want[i]);
        }
        for (int e = 0; e < 16; e += 15) {
            Check.lock(x, 3, "event " + e);
            Check.due("not event " + e, x.axisAt(3, 6), 0);
            x.event(e, true);
            Check.due("event " + e, x.axisAt(3, 6), 1);
        }
        // All of 60 tokens count: the last event alone makes it true.
        Check.lock(x, 3, Check.many("event 1|", 19) + "!event 2");
        Check.due("the last of 60 tokens", x.axisAt(3, 6), 1);
        x.event(2, true);
        Check.due("and its other side", x.axisAt(3, 6), 0);
        Check.lock(x, 3, Check.many("!", 12) + "event 2");
        Check.due("twelve times not", x.axisAt(3, 6), 1);
        Check.lock(x, 3, Check.many("!", 11) + "event 2");
        Check.due("eleven times not", x.axisAt(3, 6), 0);
        // Within one another: each level leaves two parts open.
        String deep = Check.many("event 1|event 2&(", 11) + "event 2" + Check.many(")", 11);
        Check.due("61 tokens", Check.lock(x, 3, deep), -10 - 150);
        Check.lock(x, 3, Check.many("event 1|event 2&(", 6) + "event 2" + Check.many(")", 6));
        Check.due("six within one another", x.axisAt(3, 6), 1);
    }

    private static void stillEdges() {
        StageHouse x = new StageHouse();
        x.axis(0, 0, 10, 10, 10);
        Check.lock(x, 1, "still 0");
        Check.due("at first", x.axisAt(1, 6), 1);
        x.to(0, 10);
        x.tick(1);
        Check.due("moved", x.axisAt(1, 6), 0);
        x.tick(1);
        Check.due("rests", x.axisAt(1, 6), 1);
        x.to(0, 0);
        x.tick(1);
        Check.due("moved back", x.axisAt(1, 6), 0);
        x.axis(0, 0, 10, 10, 10);
        Check.due("as if twice", x.axisAt(1, 6), 1);
    }

    private static void faultsNone() {
        StageHouse x = new StageHouse();
        x.axis(0, 0, 10, 4, 4);
        x.to(0, 10);
        Check.yes("some", x.faults(0, 6));
        int[] none = {-1, 8, LEAST, MOST, 9};
        for (int which : none) {
            Check.no("faults " + which, x.faults(0, which));
            Check.due("as they were", x.axisAt(0, 5), 6);
        }
        Check.due("the target stays", x.axisAt(0, 3), 10);
        int[] noAxis = {-1, 8, LEAST, MOST, 1, 7};
        for (int n : noAxis) {
            Check.no("axis " + n, x.faults(n, 1));
        }
        x.axis(1, 0, 10, 4, 4);
        Check.due("none of one that comes later", x.axisAt(1, 5), 0);
    }

    private static void faultsEach() {
        for (int which = 0; which < 8; which++) {
            StageHouse x = new StageHouse();
            x.axis(7, 0, 100, 8, 8);
            x.to(7, 100);
            x.tick(1);
            Check.yes("faults " + which, x.faults(7, which));
            Check.due("are these", x.axisAt(7, 5), which);
            boolean dead = (which & 1) != 0;
            boolean blind = (which & 2) != 0;
            boolean slow = (which & 4) != 0;
            Check.due("target with " + which, x.axisAt(7, 3), dead ? -1 : 100);
            x.tick(1);
            int speed = dead ? 0 : slow ? 4 : 8;
            Check.due("speed with " + which, x.axisAt(7, 2), speed);
            Check.due("place with " + which, x.axisAt(7, 1), 8 + speed);
            Check.due("seen with " + which, x.axisAt(7, 4), blind ? 8 : 8 + speed);
            Check.yes("none any more", x.faults(7, 0));
            Check.due("no target comes back", x.axisAt(7, 3), dead ? -1 : 100);
            Check.yes("it can have one", x.to(7, 90));
            x.tick(1);
            Check.due("seen again", x.axisAt(7, 4), x.axisAt(7, 1));
        }
    }

    /** One that comes to rest without a target is seen, and has its whole speed yet. */
    private static void deadOnItsWay() {
        StageHouse x = new StageHouse();
        x.axis(0, 0, 1000, 20, 5);
        x.to(0, 1000);
        x.tick(4);
        Check.due("at 50", x.axisAt(0, 4), 50);
        x.faults(0, 1);
        int[] places = {65, 75, 80, 80};
        for (int place : places) {
            x.tick(1);
            Check.due("its place", x.axisAt(0, 1), place);
            Check.due("seen there", x.axisAt(0, 4), place);
        }
    }

    private static void slowHalves() {
        int[][] halves = {{1, 1}, {2, 1}, {3, 1}, {4, 2}, {5, 2}, {998, 499}, {999, 499}};
        for (int[] half : halves) {
            StageHouse x = new StageHouse();
            x.axis(0, 0, 99999, half[0], 999);
            x.faults(0, 4);
            x.to(0, 99999);
            x.tick(1);
            Check.due("half of " + half[0], x.axisAt(0, 2), half[1]);
            x.faults(0, 0);
            x.tick(1);
            Check.due("the whole of " + half[0], x.axisAt(0, 2), half[0]);
        }
    }

    private static void stopEdges() {
        StageHouse x = new StageHouse();
        for (int n = 0; n < 8; n++) {
            x.axis(n, 0, 100, 10, 5);
            x.to(n, 100);
        }
        x.stop(false);
        Check.due("none was on", x.told(7), 0);
        Check.due("targets stay", x.axisAt(0, 3), 100);
        x.tick(2);
        x.stop(true);
        x.stop(true);
        Check.due("on", x.told(7), 1);
        for (int n = 0; n < 8; n++) {
            Check.due("no target of " + n, x.axisAt(n, 3), -1);
            Check.no("refused " + n, x.to(n, 50));
        }
        Check.yes("an axis anew within it", x.axis(3, 0, 100, 10, 5));
        Check.no("refused too", x.to(3, 50));
        x.tick(1);
        Check.due("comes to rest", x.axisAt(0, 2), 5);
        x.tick(1);
        Check.due("rests", x.axisAt(0, 2), 0);
        x.stop(false);
        Check.due("over", x.told(7), 0);
        Check.due("no target comes back", x.axisAt(0, 3), -1);
        x.tick(1);
        Check.due("it stays", x.axisAt(0, 2), 0);
        Check.yes("again", x.to(0, 50));
        Check.due("refused within", x.told(6), 9);
    }

    private static void eventEnds() {
        StageHouse x = new StageHouse();
        int[] none = {-1, 16, LEAST, MOST};
        for (int n : none) {
            Check.no("event " + n, x.event(n, true));
            Check.no("event " + n, x.event(n, false));
        }
        for (int n = 0; n < 16; n++) {
            Check.lock(x, 0, "event " + n);
            Check.due("not yet " + n, x.axisAt(0, 6), 0);
            Check.yes("true " + n, x.event(n, true));
            Check.due("is true " + n, x.axisAt(0, 6), 1);
            Check.yes("twice " + n, x.event(n, true));
            Check.due("is true yet " + n, x.axisAt(0, 6), 1);
            Check.yes("false " + n, x.event(n, false));
            Check.due("is false " + n, x.axisAt(0, 6), 0);
        }
        Check.list(x, 0, "cue 1 { fire 0; } cue 2 { fire 15; }");
        Check.lock(x, 0, "event 0 & !event 15");
        x.go(0);
        Check.due("fired the first", x.axisAt(0, 6), 1);
        x.tick(500);
        Check.due("from now on", x.axisAt(0, 6), 1);
        x.go(0);
        Check.due("fired the last", x.axisAt(0, 6), 0);
    }

    private static void tickNone() {
        StageHouse x = new StageHouse();
        x.axis(0, 0, 100, 10, 5);
        x.to(0, 100);
        int[] none = {-1, 501, LEAST, MOST};
        for (int n : none) {
            Check.due("tick " + n, x.tick(n), -1);
            Check.due("now", x.told(5), 0);
            Check.due("nothing moved", x.axisAt(0, 1), 0);
        }
        Check.due("no tick", x.tick(0), 0);
        Check.due("nothing moved by none", x.axisAt(0, 1), 0);
        Check.due("one", x.tick(1), 1);
        Check.due("moved", x.axisAt(0, 1), 5);
        Check.due("the most", x.tick(500), 501);
        Check.due("they add up", x.tick(499), 1000);
        Check.due("now", x.told(5), 1000);
        Check.due("none again", x.tick(0), 1000);
    }

    /** The distances at which x + BRAKE(x) just fits, and one less. */
    private static void brakes() {
        int[][] runs = {{9, 4, 4, 1, 0}, {10, 4, 5, 1, 0}, {16, 4, 8, 4, 0}, {15, 4, 7, 4, 0}, {4, 4, 0, 0, 0}, {3, 3, 0, 0, 0}, {1, 1, 0, 0, 0}, {5, 4, 1, 0, 0},
            {40, 4, 8, 12, 9, 5, 2, 0}, {36, 4, 8, 12, 8, 4, 0}, {35, 4, 8, 11, 8, 4, 0}};
        for (int[] run : runs) {
            moves(12, 4, run);
        }
        int[][] slow = {{6, 1, 2, 2, 1, 0}, {8, 1, 2, 2, 2, 1, 0}, {9, 1, 2, 3, 2, 1, 0}, {10, 1, 2, 3, 2, 1, 1, 0}};
        for (int[] run : slow) {
            moves(3, 1, run);
        }
        int[][] fast = {{998, 998, 0}, {999, 999, 0}, {1000, 999, 1, 0}, {1998, 999, 999, 0}, {1999, 999, 999, 1, 0}};
        for (int[] run : fast) {
            moves(999, 999, run);
        }
    }

    /** To run[0], by the speeds that follow, and back by the same. */
    private static void moves(int speed, int acc, int[] run) {
        StageHouse x = new StageHouse();
        x.axis(0, 0, 99999, speed, acc);
        int at = 0;
        for (int sign = 1; sign >= -1; sign -= 2) {
            x.to(0, sign > 0 ? run[0] : 0);
            for (int i = 1; i < run.length; i++) {
                x.tick(1);
                at += sign * run[i];
                Check.due("speed " + i + " to " + run[0], x.axisAt(0, 2), sign * run[i]);
                Check.due("place " + i + " to " + run[0], x.axisAt(0, 1), at);
            }
            x.tick(9);
            Check.due("there", x.axisAt(0, 1), sign > 0 ? run[0] : 0);
            Check.due("without a target", x.axisAt(0, 3), -1);
        }
    }

    private static void turnsAtRest() {
        StageHouse x = new StageHouse();
        x.axis(0, 0, 1000, 12, 4);
        x.to(0, 1000);
        x.tick(2);
        x.to(0, 0);
        int[] speeds = {4, 0, -4, -8, -4, 0};
        int at = 12;
        for (int speed : speeds) {
            x.tick(1);
            at += speed;
            Check.due("speed", x.axisAt(0, 2), speed);
            Check.due("place", x.axisAt(0, 1), at);
        }
        Check.due("home, and no target", x.axisAt(0, 3), -1);
        StageHouse y = new StageHouse();
        y.axis(0, 0, 1000, 12, 5);
        y.to(0, 1000);
        y.tick(3);
        y.to(0, 0);
        int[] others = {7, 2, 0, -5};
        for (int speed : others) {
            y.tick(1);
            Check.due("0 at most on the way", y.axisAt(0, 2), speed);
        }
    }

    /** On its target with a speed, and beyond it: the target stays till both are as told. */
    private static void beyondTheTarget() {
        StageHouse x = new StageHouse();
        x.axis(0, 0, 1000, 12, 4);
        x.to(0, 1000);
        x.tick(2);
        x.to(0, 16);
        x.tick(1);
        Check.due("4 fits", x.axisAt(0, 2), 4);
        Check.due("on it", x.axisAt(0, 1), 16);
        Check.due("with a speed", x.axisAt(0, 3), 16);
        x.tick(1);
        Check.due("without", x.axisAt(0, 3), -1);
        StageHouse y = new StageHouse();
        y.axis(0, 0, 1000, 12, 4);
        y.to(0, 1000);
        y.tick(2);
        y.to(0, 15);
        y.tick(1);
        Check.due("none fits: by 4 less", y.axisAt(0, 2), 4);
        Check.due("one beyond", y.axisAt(0, 1), 16);
        y.tick(1);
        Check.due("rests there", y.axisAt(0, 2), 0);
        Check.due("with its target", y.axisAt(0, 3), 15);
        y.tick(1);
        Check.due("one back", y.axisAt(0, 1), 15);
        y.tick(1);
        Check.due("at last", y.axisAt(0, 3), -1);
    }

    private static void withoutTarget() {
        int[] accs = {1, 7, 8, 9};
        int[][] want = {{7, 6}, {1, 0}, {0, 0}, {0, 0}};
        for (int i = 0; i < accs.length; i++) {
            for (int sign = -1; sign <= 1; sign += 2) {
                StageHouse x = new StageHouse();
                x.axis(0, 0, 9999, 8, accs[i]);
                x.to(0, 1000);
                x.tick(500);
                x.to(0, sign > 0 ? 9999 : 0);
                x.tick(20);
                Check.due("full speed", x.axisAt(0, 2), 8 * sign);
                x.stop(true);
                int at = x.axisAt(0, 1);
                for (int k = 0; k < 2; k++) {
                    x.tick(1);
                    at += want[i][k] * sign;
                    Check.due("nearer to 0 by " + accs[i], x.axisAt(0, 2), want[i][k] * sign);
                    Check.due("its place grows by that", x.axisAt(0, 1), at);
                }
            }
        }
    }

    private static void lockLost() {
        StageHouse x = new StageHouse();
        x.axis(0, 0, 100, 10, 10);
        x.axis(7, 0, 100, 10, 10);
        Check.lock(x, 7, "axis 0 < 10");
        x.to(0, 10);
        x.to(7, 100);
        x.tick(1);
        Check.due("the lock was true ahead of moving", x.axisAt(7, 1), 10);
        Check.due("not true now", x.axisAt(7, 6), 0);
        Check.due("a target till the next tick", x.axisAt(7, 3), 100);
        x.tick(1);
        Check.due("none then", x.axisAt(7, 3), -1);
        Check.due("it did not move on", x.axisAt(7, 1), 10);
        Check.due("not refused by that", x.told(6), 0);
        x.to(0, 0);
        x.tick(2);
        Check.due("true again", x.axisAt(7, 6), 1);
        Check.due("no target comes back", x.axisAt(7, 3), -1);
        StageHouse all = new StageHouse();
        all.event(1, true);
        for (int n = 0; n < 8; n++) {
            all.axis(n, 0, 100, 10, 10);
            Check.lock(all, n, "event 1");
            all.to(n, 100);
        }
        all.tick(1);
        all.event(1, false);
        all.tick(1);
        for (int n = 0; n < 8; n++) {
            Check.due("axis " + n + " has no target", all.axisAt(n, 3), -1);
            Check.due("axis " + n + " does not move on", all.axisAt(n, 1), 10);
        }
    }

    /** Lists by numbers ahead of axes; one whose wait is over begins, else one whose follow is over goes. */
    private static void orderWithin() {
        StageHouse x = new StageHouse();
        x.axis(0, 0, 10, 1, 1);
        Check.lock(x, 0, "event 1");
        Check.list(x, 1, "cue 1 wait 1 { axis 0 to 9; fire 1; }");
        Check.list(x, 2, "cue 1 wait 1 { axis 0 to 8; }");
        Check.list(x, 0, "cue 1 wait 1 { axis 0 to 7; }");
        x.go(2);
        x.go(1);
        x.go(0);
        x.tick(1);
        Check.due("0 and 1 were ahead of the event", x.axisAt(0, 7), 2);
        Check.due("2 was behind it", x.axisAt(0, 3), 8);
        Check.due("it moved in this tick", x.axisAt(0, 1), 1);
        StageHouse y = new StageHouse();
        Check.list(y, 0, "cue 1 { } cue 2 wait 1 { go 1 3; }");
        Check.list(y, 1, "cue 1 follow 1 { } cue 2 { channels 1 at 2; } cue 3 { channels 1 at 3; }");
        y.go(1);
        y.play(0, 2, 0);
        y.tick(1);
        Check.due("list 0 took the follow away", y.of(1, 0), 300);
        Check.due("and it begins a tick later", y.level(1, 1), 0);
        y.tick(1);
        Check.due("begins", y.level(1, 1), 3);
        StageHouse z = new StageHouse();
        Check.list(z, 0, "cue 1 follow 1 { } cue 2 follow 1 { } cue 3 wait 1 follow 1 { } cue 4 { }");
        z.go(0);
        int[] names = {200, 300, 300, 400, 400};
        for (int name : names) {
            z.tick(1);
            Check.due("one step in a tick", z.of(0, 0), name);
        }
    }

    private static void holdsOver() {
        StageHouse x = new StageHouse();
        x.row(0, 0, 30);
        x.tick(5);
        Check.due("not above now", x.ask(0, 0, 1, 0, 0, 5), -1);
        Check.due("the next tick", x.ask(0, 0, 1, 0, 0, 6), 0);
        Check.due("the one behind", x.ask(0, 0, 1, 0, 0, 7), 1);
        Check.due("far away", x.ask(0, 0, 1, 0, 0, 505), 2);
        x.tick(0);
        Check.due("all three", x.told(3), 3);
        x.tick(1);
        Check.due("the first is over", x.told(3), 2);
        Check.due("it is gone", x.hold(0, 0), -1);
        Check.due("its number is free", x.ask(0, 0, 1, 0, 0, 7), 0);
        x.tick(1);
        Check.due("two are over", x.told(3), 1);
        x.tick(497);
        Check.due("one tick yet", x.told(3), 1);
        x.tick(1);
        Check.due("over", x.told(3), 0);
        x.ask(0, 0, 10, 0, 0, 600);
        x.tick(500);
        Check.due("over within many ticks", x.told(3), 0);
    }

    /** Many ticks in one call are as many calls of one. */
    private static void longTick() {
        StageHouse x = busy();
        StageHouse y = busy();
        x.tick(120);
        for (int i = 0; i < 120; i++) {
            y.tick(1);
        }
        for (int what = 0; what < 8; what++) {
            Check.due("axis 0 of " + what, x.axisAt(0, what), y.axisAt(0, what));
            Check.due("axis 1 of " + what, x.axisAt(1, what), y.axisAt(1, what));
            Check.due("told " + what, x.told(what), y.told(what));
        }
        for (int what = 0; what < 6; what++) {
            Check.due("list 0 of " + what, x.of(0, what), y.of(0, what));
            Check.due("list 1 of " + what, x.of(1, what), y.of(1, what));
        }
        for (int c = 1; c <= 64; c++) {
            Check.due("channel " + c, x.out(c), y.out(c));
        }
    }

    private static StageHouse busy() {
        StageHouse x = new StageHouse();
        x.axis(0, 0, 300, 11, 3);
        x.axis(1, 0, 300, 7, 2);
        Check.lock(x, 1, "axis 0 < 200 | event 2");
        Check.list(x, 0, "cue 1 up 7 follow 5 { channels 1-20 at 90; axis 0 to 300; axis 1 to 250; }"
                + "cue 2 down 9 wait 3 follow 11 link 1 { channels 15-50 at 40; axis 0 to 10; go 1 1; }");
        Check.list(x, 1, "cue 1 up 30 wait 2 { channels 40-64 at 200; master 0 at 77; }");
        x.row(0, 0, 20);
        x.ask(0, 0, 3, 0, 0, 60);
        x.ask(0, 0, 3, 0, 0, 600);
        x.go(0);
        return x;
    }
}
