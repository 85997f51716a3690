/** Promises 18 to 24: axes, locks, faults, stop and events. */
public final class AxisTest {
    public static void main(String[] args) {
        making();
        sending();
        telling();
        moving();
        turning();
        overshooting();
        letting();
        locks();
        lockWords();
        lockLost();
        stillness();
        dead();
        blind();
        slow();
        stopping();
        events();
        axisAnew();
        Check.end();
    }

    private static void making() {
        StageHouse x = new StageHouse();
        Check.no("no axis 8", x.axis(8, 0, 1, 1, 1));
        Check.no("no axis below", x.axis(-1, 0, 1, 1, 1));
        Check.no("low below", x.axis(0, -1, 1, 1, 1));
        Check.no("low as high", x.axis(0, 1, 1, 1, 1));
        Check.no("low above high", x.axis(0, 2, 1, 1, 1));
        Check.no("high above", x.axis(0, 0, 100000, 1, 1));
        Check.no("speed 0", x.axis(0, 0, 1, 0, 1));
        Check.no("speed above", x.axis(0, 0, 1, 1000, 1));
        Check.no("acc 0", x.axis(0, 0, 1, 1, 0));
        Check.no("acc above", x.axis(0, 0, 1, 1, 1000));
        Check.due("not there yet", x.axisAt(0, 0), 0);
        Check.yes("widest", x.axis(0, 0, 99999, 999, 999));
        Check.yes("least", x.axis(7, 99998, 99999, 1, 1));
        Check.due("there", x.axisAt(7, 0), 1);
        Check.due("at low", x.axisAt(7, 1), 99998);
        Check.due("seen at low", x.axisAt(7, 4), 99998);
    }

    private static void sending() {
        StageHouse x = new StageHouse();
        x.axis(1, 10, 20, 5, 5);
        Check.yes("low", x.to(1, 10));
        Check.yes("high", x.to(1, 20));
        Check.due("target", x.axisAt(1, 3), 20);
        Check.no("below low", x.to(1, 9));
        Check.no("above high", x.to(1, 21));
        Check.due("target stays", x.axisAt(1, 3), 20);
        Check.due("refused", x.axisAt(1, 7), 2);
        Check.no("not there", x.to(2, 10));
        Check.due("refused too", x.axisAt(2, 7), 1);
        Check.no("no such number", x.to(8, 10));
        Check.no("nor below", x.to(-1, 10));
        Check.due("all refused", x.told(6), 3);
    }

    private static void telling() {
        StageHouse x = new StageHouse();
        for (int what = -1; what <= 8; what++) {
            int want = what == 0 || what == 7 ? 0 : what == 6 ? 1 : -1;
            Check.due("not there, " + what, x.axisAt(3, what), want);
            Check.due("no axis 8, " + what, x.axisAt(8, what), -1);
            Check.due("no axis below, " + what, x.axisAt(-1, what), -1);
        }
        x.axis(3, 5, 50, 10, 4);
        x.to(3, 50);
        x.faults(3, 4);
        x.tick(1);
        int[] want = {1, 9, 4, 50, 9, 4, 1, 0, -1};
        for (int what = 0; what <= 8; what++) {
            Check.due("there, " + what, x.axisAt(3, what), want[what]);
        }
        Check.due("there, -1", x.axisAt(3, -1), -1);
    }

    /** By hand: x + BRAKE(x) is 4 + 0, 8 + 4, 10 + 6 + 2, then as much as the rest of 40 lets it. */
    private static void moving() {
        StageHouse x = new StageHouse();
        x.axis(0, 0, 1000, 10, 4);
        x.to(0, 40);
        int[] speeds = {4, 8, 10, 10, 6, 2, 0, 0};
        int at = 0;
        for (int i = 0; i < speeds.length; i++) {
            x.tick(1);
            at += speeds[i];
            Check.due("speed " + i, x.axisAt(0, 2), speeds[i]);
            Check.due("place " + i, x.axisAt(0, 1), at);
        }
        x.tick(10);
        Check.due("there", x.axisAt(0, 1), 40);
        Check.due("no target", x.axisAt(0, 3), -1);
        Check.due("rests", x.axisAt(0, 2), 0);
        Check.yes("to where it is", x.to(0, 40));
        Check.due("a target", x.axisAt(0, 3), 40);
        x.tick(1);
        Check.due("over in a tick", x.axisAt(0, 3), -1);
        x.to(0, 39);
        x.tick(1);
        Check.due("one back", x.axisAt(0, 1), 39);
        Check.due("speed with sign", x.axisAt(0, 2), -1);
        Check.due("target as long as it moves", x.axisAt(0, 3), 39);
        x.tick(1);
        Check.due("then none", x.axisAt(0, 3), -1);
    }

    private static void turning() {
        StageHouse x = new StageHouse();
        x.axis(0, 0, 1000, 20, 8);
        x.to(0, 1000);
        x.tick(5);
        Check.due("8 24 44 64 84", x.axisAt(0, 1), 84);
        x.to(0, 0);
        x.tick(1);
        Check.due("12 away", x.axisAt(0, 2), 12);
        x.tick(1);
        Check.due("4 away", x.axisAt(0, 2), 4);
        x.tick(1);
        Check.due("0 at most", x.axisAt(0, 2), 0);
        Check.due("100", x.axisAt(0, 1), 100);
        x.tick(1);
        Check.due("then back", x.axisAt(0, 2), -8);
        x.tick(30);
        Check.due("home", x.axisAt(0, 1), 0);
    }

    /** Too fast for a target that is near: it goes beyond, and comes back. */
    private static void overshooting() {
        StageHouse x = new StageHouse();
        x.axis(0, 0, 1000, 20, 8);
        x.to(0, 1000);
        x.tick(5);
        x.to(0, 90);
        x.tick(1);
        Check.due("12 is the least", x.axisAt(0, 2), 12);
        Check.due("96", x.axisAt(0, 1), 96);
        x.tick(1);
        Check.due("away by 4", x.axisAt(0, 2), 4);
        x.tick(1);
        Check.due("rests at 100", x.axisAt(0, 1), 100);
        x.tick(1);
        Check.due("back by 8", x.axisAt(0, 2), -8);
        x.tick(1);
        Check.due("2 more", x.axisAt(0, 1), 90);
        Check.due("still moving", x.axisAt(0, 3), 90);
        x.tick(1);
        Check.due("there", x.axisAt(0, 3), -1);
        StageHouse y = new StageHouse();
        y.axis(0, 0, 1000, 20, 8);
        y.to(0, 1000);
        y.tick(5);
        y.to(0, 84);
        y.tick(1);
        Check.due("on it with speed: shrinks", y.axisAt(0, 2), 12);
        StageHouse z = new StageHouse();
        z.axis(0, 0, 10, 999, 300);
        z.to(0, 10);
        z.tick(1);
        Check.due("10 at once", z.axisAt(0, 1), 10);
        z.tick(1);
        Check.due("rests", z.axisAt(0, 2), 0);
    }

    private static void letting() {
        StageHouse x = new StageHouse();
        x.axis(0, 0, 1000, 20, 8);
        Check.list(x, 0, "cue 1 { let 0; }");
        x.to(0, 1000);
        x.tick(3);
        x.go(0);
        int[] speeds = {12, 4, 0, 0};
        for (int i = 0; i < 4; i++) {
            x.tick(1);
            Check.due("comes to rest", x.axisAt(0, 2), speeds[i]);
        }
        Check.due("60", x.axisAt(0, 1), 60);
        x.to(0, 0);
        x.tick(2);
        x.play(0, 1, 0);
        x.tick(1);
        Check.due("from below 0 too", x.axisAt(0, 2), -8);
        x.tick(1);
        Check.due("to 0", x.axisAt(0, 2), 0);
    }

    private static void locks() {
        StageHouse x = new StageHouse();
        String[] texts = {"event 1 | event 2 & event 3", "event 1 & event 2 | event 3", "(event 1 | event 2) & event 3",
            "!event 1 & event 2", "!(event 1 & event 2)", "!!event 1 | !event 2 & !event 3",
            "event 1 | event 2 | event 3", "event 1 & event 2 & event 3", "event 1 & !(event 2 | !event 3) | event 2 & event 3"};
        for (int e = 0; e < 8; e++) {
            boolean a = (e & 1) != 0;
            boolean b = (e & 2) != 0;
            boolean c = (e & 4) != 0;
            x.event(1, a);
            x.event(2, b);
            x.event(3, c);
            boolean[] want = {a || b && c, a && b || c, (a || b) && c, !a && b, !(a && b), a || !b && !c,
                a || b || c, a && b && c, a && !(b || !c) || b && c};
            for (int i = 0; i < texts.length; i++) {
                Check.due(texts[i], Check.lock(x, 5, texts[i]), 0);
                Check.due(texts[i] + " with " + e, x.axisAt(5, 6), want[i] ? 1 : 0);
            }
        }
    }

    private static void lockWords() {
        StageHouse x = new StageHouse();
        x.axis(1, 10, 99999, 5, 5);
        String[] texts = {"axis 1 < 11", "axis 1 < 10", "axis 1 > 9", "axis 1 > 10", "still 1",
            "axis 2 < 99999", "axis 2 > 0", "still 2", "event 15"};
        int[] want = {1, 0, 1, 0, 1, 0, 0, 1, 0};
        for (int i = 0; i < texts.length; i++) {
            Check.lock(x, 0, texts[i]);
            Check.due(texts[i], x.axisAt(0, 6), want[i]);
        }
        x.event(15, true);
        Check.due("event 15 is", x.axisAt(0, 6), 1);
        Check.due("a fault", Check.lock(x, 0, "event 16"), -16);
        Check.due("leaves the lock", x.axisAt(0, 6), 1);
        x.event(15, false);
        Check.due("as it was", x.axisAt(0, 6), 0);
        Check.lock(x, 0, "axis 1 > 99999 | axis 1 < 99999");
        Check.due("great numbers", x.axisAt(0, 6), 1);
    }

    private static void lockLost() {
        StageHouse x = new StageHouse();
        x.axis(0, 0, 100, 10, 10);
        x.axis(1, 0, 100, 10, 10);
        Check.lock(x, 1, "axis 0 < 15");
        x.to(0, 100);
        x.to(1, 100);
        x.tick(2);
        Check.due("both move", x.axisAt(1, 1), 20);
        Check.due("target yet, though the lock is not true", x.axisAt(1, 3), 100);
        Check.due("not true", x.axisAt(1, 6), 0);
        x.tick(1);
        Check.due("lost ahead of moving", x.axisAt(1, 3), -1);
        Check.due("it brakes", x.axisAt(1, 2), 0);
        Check.due("not refused by that", x.axisAt(1, 7), 0);
        Check.no("refused now", x.to(1, 50));
        Check.due("counted", x.axisAt(1, 7), 1);
        for (int n = 0; n < 8; n++) {
            StageHouse y = new StageHouse();
            y.axis(n, 0, 100, 10, 10);
            y.event(1, true);
            Check.lock(y, n, "event 1");
            Check.yes("axis " + n, y.to(n, 100));
            y.tick(1);
            y.event(1, false);
            y.tick(1);
            Check.due("axis " + n + " lost its target", y.axisAt(n, 3), -1);
            Check.no("axis " + n + " is refused", y.to(n, 100));
            Check.due("axis " + n + " counts", y.told(6), 1);
        }
    }

    private static void stillness() {
        StageHouse x = new StageHouse();
        x.axis(0, 0, 100, 10, 10);
        Check.lock(x, 1, "still 0");
        Check.due("still at first", x.axisAt(1, 6), 1);
        x.to(0, 20);
        Check.due("still ahead of the tick", x.axisAt(1, 6), 1);
        x.tick(1);
        Check.due("moved", x.axisAt(1, 6), 0);
        x.tick(1);
        Check.due("moved again", x.axisAt(1, 6), 0);
        Check.due("at 20", x.axisAt(0, 1), 20);
        x.tick(1);
        Check.due("still", x.axisAt(1, 6), 1);
    }

    private static void dead() {
        StageHouse x = new StageHouse();
        x.axis(0, 0, 100, 10, 5);
        x.to(0, 100);
        x.tick(2);
        Check.yes("dead", x.faults(0, 1));
        Check.due("no target", x.axisAt(0, 3), -1);
        Check.no("none can be", x.to(0, 50));
        Check.due("refused", x.axisAt(0, 7), 1);
        x.tick(1);
        Check.due("brakes", x.axisAt(0, 2), 5);
        Check.yes("no faults", x.faults(0, 0));
        Check.yes("again", x.to(0, 50));
        Check.no("no such faults", x.faults(0, 8));
        Check.no("nor below", x.faults(0, -1));
        Check.no("not there", x.faults(1, 0));
        Check.no("no such axis", x.faults(8, 0));
        Check.no("nor below", x.faults(-1, 0));
        Check.due("as they are", x.axisAt(0, 5), 0);
        x.faults(0, 7);
        Check.due("together", x.axisAt(0, 5), 7);
    }

    private static void blind() {
        StageHouse x = new StageHouse();
        x.axis(0, 0, 100, 10, 10);
        Check.lock(x, 1, "axis 0 > 5");
        x.faults(0, 2);
        x.to(0, 100);
        x.tick(3);
        Check.due("moves", x.axisAt(0, 1), 30);
        Check.due("seen where it was", x.axisAt(0, 4), 0);
        Check.due("the lock sees that", x.axisAt(1, 6), 0);
        x.faults(0, 0);
        Check.due("till the next tick", x.axisAt(0, 4), 0);
        x.tick(1);
        Check.due("seen", x.axisAt(0, 4), 40);
        Check.due("by the lock too", x.axisAt(1, 6), 1);
        Check.lock(x, 1, "still 0");
        Check.due("not still", x.axisAt(1, 6), 0);
        x.faults(0, 2);
        x.tick(1);
        Check.due("seen twice at one place", x.axisAt(1, 6), 1);
    }

    private static void slow() {
        StageHouse x = new StageHouse();
        x.axis(0, 0, 1000, 21, 8);
        x.axis(1, 0, 1000, 1, 1);
        x.faults(0, 4);
        x.faults(1, 4);
        x.to(0, 1000);
        x.to(1, 1000);
        x.tick(4);
        Check.due("half, down", x.axisAt(0, 2), 10);
        Check.due("1 at least", x.axisAt(1, 2), 1);
        x.faults(0, 0);
        x.tick(2);
        Check.due("whole", x.axisAt(0, 2), 21);
        x.faults(0, 4);
        x.tick(1);
        Check.due("slows by acc: none fits", x.axisAt(0, 2), 13);
        x.tick(1);
        Check.due("10 fits again", x.axisAt(0, 2), 10);
    }

    private static void stopping() {
        StageHouse x = new StageHouse();
        x.axis(0, 0, 100, 10, 5);
        x.to(0, 100);
        x.tick(2);
        Check.due("no stop", x.told(7), 0);
        x.stop(true);
        Check.due("stop", x.told(7), 1);
        Check.due("no target", x.axisAt(0, 3), -1);
        Check.no("refused", x.to(0, 50));
        x.tick(1);
        Check.due("brakes", x.axisAt(0, 2), 5);
        x.stop(true);
        x.stop(false);
        Check.due("over", x.told(7), 0);
        Check.due("still no target", x.axisAt(0, 3), -1);
        Check.yes("again", x.to(0, 50));
        x.stop(false);
        Check.due("target stays", x.axisAt(0, 3), 50);
        Check.due("refused once", x.told(6), 1);
    }

    private static void events() {
        StageHouse x = new StageHouse();
        Check.no("no event 16", x.event(16, true));
        Check.no("nor below", x.event(-1, true));
        Check.yes("0", x.event(0, true));
        Check.lock(x, 0, "event 0 & !event 14");
        Check.due("true", x.axisAt(0, 6), 1);
        Check.list(x, 0, "cue 1 { fire 14; }");
        x.go(0);
        Check.due("fired", x.axisAt(0, 6), 0);
        Check.yes("not", x.event(14, false));
        Check.due("true again", x.axisAt(0, 6), 1);
    }

    private static void axisAnew() {
        StageHouse x = new StageHouse();
        Check.lock(x, 0, "event 1");
        Check.no("refused", x.to(0, 5));
        x.axis(0, 0, 100, 10, 5);
        Check.due("the lock stays", x.axisAt(0, 6), 0);
        Check.due("refused stays", x.axisAt(0, 7), 1);
        x.event(1, true);
        x.to(0, 100);
        x.tick(3);
        x.faults(0, 6);
        x.axis(0, 20, 100, 10, 5);
        int[] want = {1, 20, 0, -1, 20, 0, 1, 1};
        for (int what = 0; what < 8; what++) {
            Check.due("anew " + what, x.axisAt(0, what), want[what]);
        }
        Check.lock(x, 1, "still 0");
        Check.due("still", x.axisAt(1, 6), 1);
    }
}
