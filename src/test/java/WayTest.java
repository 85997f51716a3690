/** Promises 37 to 40: ways, crowds, and the least time in which all are outside. */
public final class WayTest {
    public static void main(String[] args) {
        ways();
        crowds();
        least();
        waiting();
        split();
        backward();
        limits();
        clearing();
        Check.end();
    }

    private static void ways() {
        StageHouse x = new StageHouse();
        Check.due("from 12", x.way(12, 0, 1, 1), -1);
        Check.due("from below", x.way(-1, 0, 1, 1), -1);
        Check.due("to 12", x.way(0, 12, 1, 1), -1);
        Check.due("to below", x.way(0, -1, 1, 1), -1);
        Check.due("one and the same", x.way(3, 3, 1, 1), -1);
        Check.due("many 0", x.way(0, 1, 0, 1), -1);
        Check.due("many 51", x.way(0, 1, 51, 1), -1);
        Check.due("time 0", x.way(0, 1, 1, 0), -1);
        Check.due("time 21", x.way(0, 1, 1, 21), -1);
        for (int i = 0; i < 20; i++) {
            Check.due("number", x.way(i % 11, 11, 1 + i % 50, 20), i);
        }
        Check.due("not 21 ways", x.way(0, 11, 1, 1), -1);
        x.crowd(0, 1);
        Check.due("20 ticks", x.empty(), 20);
    }

    private static void crowds() {
        StageHouse x = new StageHouse();
        Check.no("outside", x.crowd(11, 1));
        Check.no("below", x.crowd(-1, 1));
        Check.no("61", x.crowd(0, 61));
        Check.no("fewer than 0", x.crowd(0, -1));
        Check.due("none are there", x.empty(), 0);
        Check.yes("60", x.crowd(10, 60));
        Check.due("no way", x.empty(), -1);
        x.way(10, 11, 50, 1);
        Check.due("50 and 10", x.empty(), 2);
        Check.yes("50", x.crowd(10, 50));
        Check.due("50 at once", x.empty(), 1);
        Check.yes("0", x.crowd(10, 0));
        Check.due("none", x.empty(), 0);
    }

    private static void least() {
        StageHouse x = new StageHouse();
        x.way(0, 1, 2, 3);
        x.way(1, 11, 1, 4);
        x.crowd(0, 1);
        Check.due("one", x.empty(), 7);
        x.crowd(0, 5);
        Check.due("one in a tick", x.empty(), 11);
        x.way(0, 11, 1, 9);
        Check.due("some by a long way", x.empty(), 10);
        Check.due("asked again", x.empty(), 10);
        x.crowd(1, 3);
        Check.due("three who are nearer", x.empty(), 10);
        x.crowd(1, 4);
        Check.due("four of them", x.empty(), 10);
        x.crowd(1, 5);
        Check.due("five of them", x.empty(), 11);
        x.way(11, 0, 50, 1);
        Check.due("a way back is of no use", x.empty(), 11);
        x.crowd(2, 1);
        Check.due("one without a way", x.empty(), -1);
    }

    private static void waiting() {
        StageHouse x = new StageHouse();
        x.way(0, 1, 50, 1);
        x.way(1, 11, 3, 2);
        x.crowd(0, 10);
        Check.due("they wait at 1", x.empty(), 6);
        x.crowd(0, 0);
        x.crowd(1, 10);
        Check.due("they wait from the beginning", x.empty(), 5);
        x.crowd(0, 10);
        x.crowd(1, 0);
        Check.due("nothing is left of that", x.empty(), 6);
        x.way(0, 1, 50, 20);
        Check.due("a slow way more", x.empty(), 6);
        x.way(1, 11, 7, 20);
        Check.due("too long to be of use", x.empty(), 6);
    }

    private static void split() {
        StageHouse x = new StageHouse();
        x.way(0, 1, 5, 1);
        x.way(0, 2, 5, 1);
        x.way(1, 11, 2, 1);
        x.way(2, 11, 3, 2);
        x.way(2, 1, 1, 1);
        x.crowd(0, 20);
        // By T go 2 (T - 1) and 3 (T - 2): 2 4 6 8 10 and 0 3 6 9 12, 20 at T 6 (10 and 12).
        Check.due("two ways", x.empty(), 6);
        x.crowd(0, 18);
        Check.due("17 by 5, so 6", x.empty(), 6);
        x.crowd(0, 17);
        Check.due("17 by 5", x.empty(), 5);
    }

    /** The first one sent by the common way has to be taken back for the one who has no other. */
    private static void backward() {
        StageHouse x = new StageHouse();
        x.way(0, 2, 1, 1);
        x.way(1, 2, 1, 1);
        x.way(2, 11, 1, 1);
        x.way(0, 11, 1, 3);
        x.crowd(0, 1);
        x.crowd(1, 1);
        Check.due("each by its own", x.empty(), 3);
        x.crowd(1, 2);
        Check.due("two by the common one", x.empty(), 3);
        x.crowd(1, 3);
        Check.due("three by the common one", x.empty(), 4);
        waitTakenBack();
    }

    /** One of the two at 0 who waited for the short way has to take the long one at once, when four more come. */
    private static void waitTakenBack() {
        StageHouse x = new StageHouse();
        x.way(0, 11, 1, 1);
        x.way(0, 11, 1, 5);
        x.way(1, 0, 4, 1);
        x.crowd(0, 2);
        x.crowd(1, 4);
        Check.due("six by 5", x.empty(), 5);
        x.crowd(1, 5);
        Check.due("seven by 6", x.empty(), 6);
    }

    private static void limits() {
        StageHouse x = new StageHouse();
        x.way(0, 1, 1, 20);
        x.way(1, 2, 1, 20);
        x.way(2, 11, 1, 10);
        x.crowd(0, 1);
        Check.due("just 50", x.empty(), 50);
        x.crowd(0, 2);
        Check.due("51 is too late", x.empty(), -1);
        StageHouse y = new StageHouse();
        y.way(0, 11, 1, 1);
        y.crowd(0, 50);
        Check.due("50 in 50", y.empty(), 50);
        y.crowd(0, 51);
        Check.due("51 not", y.empty(), -1);
        StageHouse z = new StageHouse();
        z.way(0, 1, 1, 20);
        z.way(1, 2, 1, 20);
        z.way(2, 11, 1, 11);
        z.crowd(0, 1);
        Check.due("longer than 50", z.empty(), -1);
    }

    private static void clearing() {
        StageHouse x = new StageHouse();
        for (int i = 0; i < 20; i++) {
            x.way(0, 11, 1, 1);
        }
        x.crowd(0, 60);
        Check.due("20 in a tick", x.empty(), 3);
        x.clearWays();
        Check.due("no crowd", x.empty(), 0);
        x.crowd(0, 1);
        Check.due("no way", x.empty(), -1);
        Check.due("numbers from 0 on", x.way(0, 11, 1, 5), 0);
        Check.due("one", x.empty(), 5);
        x.crowd(0, 3);
        Check.due("by this way alone", x.empty(), 7);
    }
}
