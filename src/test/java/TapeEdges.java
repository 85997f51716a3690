/** Promises 1 to 3 and 8: a new object, the tape when it is empty and full, and which fault is told. */
final class TapeEdges {
    private static final int BLANKS = 0x20202020;

    private TapeEdges() {
    }

    static void run() {
        newTexts();
        newWire();
        newRig();
        newHall();
        apart();
        fullTape();
        almostFullTape();
        bytesInOrder();
        allBytes();
        cutting();
        cutKeepsTheFirst();
        usedUp();
        latestFault();
        noneDoesNotCount();
    }

    private static void newTexts() {
        Check.promise(1);
        StageHouse x = new StageHouse();
        Check.due("an empty tape", x.cut(0), 0);
        Check.due("not a byte", x.cut(1), -1);
        Check.due("no fault", x.fault(), 0);
        for (int l = 0; l < 4; l++) {
            int[] want = {0, 0, -1, 255, 0, 0};
            for (int what = 0; what < 6; what++) {
                Check.due("list " + l + " of " + what, x.of(l, what), want[what]);
            }
            Check.due("tracks nothing", x.tracks(l, 1, 0, 1), -1);
            Check.no("goes nowhere", x.go(l));
            Check.no("plays nothing", x.play(l, 1, 0));
            Check.due("first level", x.level(l, 1), 0);
            Check.due("last level", x.level(l, 64), 0);
        }
        for (int p = 0; p < 3; p++) {
            Check.due("has 0", x.share(p, 0), 0);
            Check.due("no rest", x.share(p, 1), 0);
            Check.due("of 1", x.share(p, 2), 1);
            Check.due("an answer", x.share(p, 3), 1);
        }
        x.section(0, 7);
        x.row(0, 0, 10);
        x.ask(0, 0, 10, 3, 6, 1);
        Check.due("no rules", x.hold(0, 3), 70);
    }

    private static void newWire() {
        StageHouse x = new StageHouse();
        Check.list(x, 0, "cue 1 { channels 1-64 at 255; }");
        x.go(0);
        for (int b = 0; b < 128; b++) {
            Check.due("byte " + b + " has no channel", x.wire(b), 0);
        }
        x.patch(127, 64, 0);
        Check.due("grand is 255", x.wire(127), 255);
        Check.due("master is 255", x.out(1), 255);
    }

    private static void newRig() {
        StageHouse x = new StageHouse();
        int[] want = {0, -1, -1, -1, -1, -1, 1, 0};
        for (int n = 0; n < 8; n++) {
            for (int what = 0; what < 8; what++) {
                Check.due("axis " + n + " of " + what, x.axisAt(n, what), want[what]);
            }
        }
        for (int e = 0; e < 16; e++) {
            Check.lock(x, 0, "event " + e);
            Check.due("event " + e + " is not", x.axisAt(0, 6), 0);
        }
        Check.due("now", x.told(5), 0);
        Check.due("no tick more", x.tick(0), 0);
        Check.due("no stop", x.told(7), 0);
        x.axis(0, 0, 9, 1, 1);
        Check.lock(x, 0, "!event 0");
        Check.yes("so it may move", x.to(0, 9));
    }

    private static void newHall() {
        StageHouse x = new StageHouse();
        for (int r = 0; r < 40; r++) {
            Check.due("no row " + r, x.seat(r, 0), -1);
        }
        for (int s = 0; s < 8; s++) {
            Check.due("no seat of " + s, x.ask(0, s, 1, 0, 0, 9), -1);
        }
        for (int what = 0; what < 8; what++) {
            Check.due("told " + what, x.told(what), 0);
        }
        Check.due("no hold", x.hold(0, 0), -1);
        Check.due("no ticket", x.enter(0), -1);
        Check.due("nobody is there", x.empty(), 0);
        x.crowd(10, 1);
        Check.due("no ways", x.empty(), -1);
        Check.due("the first way", x.way(10, 11, 1, 1), 0);
        x.section(0, 3);
        x.row(0, 0, 4);
        for (int desk = 0; desk < 4; desk++) {
            Check.due("line up at " + desk, x.ask(desk, 0, 4, 0, 0, 9), 0);
            Check.due("pays", x.pay(0, 12), desk);
            Check.due("gives back", x.back(desk, desk), 12);
        }
    }

    /** One object's calls are no other object's. */
    private static void apart() {
        StageHouse x = new StageHouse();
        x.feed(BLANKS, BLANKS, BLANKS, BLANKS, BLANKS);
        x.tick(3);
        x.stop(true);
        x.line(0, false);
        x.row(0, 0, 4);
        StageHouse y = new StageHouse();
        Check.due("its own tape", y.cut(0), 0);
        Check.due("its own time", y.told(5), 0);
        Check.due("its own stop", y.told(7), 0);
        Check.due("its own rows", y.seat(0, 0), -1);
        y.row(0, 0, 4);
        Check.due("its own lines", y.ask(0, 0, 4, 0, 0, 9), 0);
    }

    private static void fullTape() {
        Check.promise(2);
        StageHouse x = new StageHouse();
        for (int i = 1; i <= 200; i++) {
            Check.due("feed " + i, x.feed(BLANKS, BLANKS, BLANKS, BLANKS, BLANKS), 20 * i);
        }
        Check.due("more than 4000", x.feed(0, 0, 0, 0, 0), -1);
        Check.due("still more", x.feed(0, 0, 0, 0, 0), -1);
        Check.due("4000 stay", x.cut(4000), 0);
        Check.due("blanks all of them", x.list(0), 0);
        Check.due("room again", x.feed(0, 0, 0, 0, 0), 20);
    }

    private static void almostFullTape() {
        StageHouse x = new StageHouse();
        Check.text(x, Check.many(" ", 3981));
        Check.due("4001 would be too much", x.feed(0, 0, 0, 0, 0), -1);
        Check.due("3981 stay", x.cut(3981), 0);
        Check.due("a byte less", x.cut(3980), 1);
        Check.due("just 4000", x.feed(BLANKS, BLANKS, BLANKS, BLANKS, 0x20202021), 4000);
        Check.due("the last byte counts", x.rules(), -10 - 3999);
    }

    private static void bytesInOrder() {
        StageHouse x = new StageHouse();
        Check.due("20 bytes", x.feed(0x6d616e79, 0x20313a40, 0x39393939, 0x393b6d61, 0x6e79203a), 20);
        Check.due("behind the tape", x.feed(0x2d303b20, BLANKS, BLANKS, BLANKS, BLANKS), 40);
        Check.due("many 1:@99999;many :-0;", x.rules(), -10 - 19);
        Check.due("an odd end", feedBehind("many", 0x20323a2b), 1);
    }

    private static int feedBehind(String text, int four) {
        StageHouse x = new StageHouse();
        Check.text(x, text);
        x.feed(four, 0x373b2020, BLANKS, BLANKS, BLANKS);
        return x.rules();
    }

    /** A number's sign has no part in its bytes: 128 and more are none of the tokens, nor is 0. */
    private static void allBytes() {
        for (int c = 0; c < 256; c++) {
            boolean blank = c == 32 || c == 9 || c == 13 || c == 10;
            StageHouse x = new StageHouse();
            x.feed(BLANKS, c << 24 | 0x202020, BLANKS, BLANKS, BLANKS);
            Check.due("byte " + c, x.rules(), blank ? 0 : -14);
            x.feed(BLANKS, BLANKS, BLANKS, BLANKS, 0x20202000 | c);
            Check.due("byte " + c + " at the end", x.rules(), blank ? 0 : -10 - 19);
        }
    }

    private static void cutting() {
        Check.promise(3);
        StageHouse x = new StageHouse();
        Check.due("nothing of nothing", x.cut(0), 0);
        Check.due("one of nothing", x.cut(1), -1);
        Check.due("below 0", x.cut(-1), -1);
        x.feed(BLANKS, BLANKS, BLANKS, BLANKS, BLANKS);
        Check.due("it has fewer", x.cut(21), -1);
        Check.due("below 0 again", x.cut(-1), -1);
        Check.due("the least number", x.cut(Integer.MIN_VALUE), -1);
        Check.due("the greatest number", x.cut(Integer.MAX_VALUE), -1);
        Check.due("all stay", x.cut(20), 0);
        Check.due("one goes", x.cut(19), 1);
        Check.due("it is gone", x.cut(20), -1);
        Check.due("all go", x.cut(0), 19);
        Check.due("none are left", x.cut(1), -1);
    }

    private static void cutKeepsTheFirst() {
        StageHouse x = new StageHouse();
        Check.text(x, "day 1:-1;?");
        Check.due("the last goes", x.cut(9), 1);
        Check.due("the first stay", x.rules(), 1);
        Check.text(x, "day 1:-1;day 2:-2;");
        Check.due("the second goes", x.cut(9), 9);
        Check.text(x, "kind 1:-1;");
        Check.due("another comes behind", x.rules(), 2);
        String[] behind = {"1", "a", "z", " ;", "?"};
        for (String more : behind) {
            Check.text(x, "event 1" + more);
            x.cut(7);
            Check.due("what was cut is not looked at: " + more, x.lock(0), 0);
        }
        Check.text(x, "eventevent");
        x.cut(5);
        Check.text(x, " 9");
        Check.due("a word that was cut", x.lock(0), 0);
        Check.text(x, "event 1 | event 2");
        x.cut(9);
        Check.due("the end is where it was cut", x.lock(0), -10 - 9);
    }

    /** The four texts use the tape up, whatever they answer. */
    private static void usedUp() {
        String[] texts = {"", "cue 1 { }", "event 1", "day 1:-1;", "0:1;", "?"};
        for (String text : texts) {
            StageHouse x = new StageHouse();
            Check.promise(4);
            for (int l = -1; l <= 4; l++) {
                Check.list(x, l, text);
                Check.due("used up by list " + l + " " + text, x.cut(1), -1);
            }
            Check.promise(5);
            for (int n = -1; n <= 8; n++) {
                Check.lock(x, n, text);
                Check.due("used up by lock " + n + " " + text, x.cut(1), -1);
            }
            Check.promise(6);
            Check.rules(x, text);
            Check.due("used up by rules " + text, x.cut(1), -1);
            Check.promise(7);
            Check.shares(x, text);
            Check.due("used up by shares " + text, x.cut(1), -1);
        }
    }

    private static void latestFault() {
        Check.promise(8);
        StageHouse x = new StageHouse();
        Check.due("none at first", x.fault(), 0);
        Check.due("order of a list", Check.list(x, 0, "cue 2 { } cue 1 { }"), -10 - 14);
        Check.due("is 3", x.fault(), 3);
        Check.due("a sound lock", Check.lock(x, 0, "event 1"), 0);
        Check.due("none by a lock", x.fault(), 0);
        Check.due("range of rules", Check.rules(x, "day 7"), -14);
        Check.due("is 2", x.fault(), 2);
        Check.due("sound shares", Check.shares(x, ""), 0);
        Check.due("none by shares", x.fault(), 0);
        Check.due("token of a lock", Check.lock(x, 0, ""), -10);
        Check.due("is 1", x.fault(), 1);
        Check.due("a sound list", Check.list(x, 0, ""), 0);
        Check.due("none by a list", x.fault(), 0);
        Check.due("order of shares", Check.shares(x, "1:1;1:1;"), -14);
        Check.due("is 3 again", x.fault(), 3);
        Check.due("asked twice", x.fault(), 3);
        Check.due("sound rules", Check.rules(x, ""), 0);
        Check.due("none by rules", x.fault(), 0);
    }

    private static void noneDoesNotCount() {
        StageHouse x = new StageHouse();
        Check.list(x, 0, "cue 0 { }");
        int[] noList = {-1, 4, Integer.MIN_VALUE, Integer.MAX_VALUE};
        for (int l : noList) {
            Check.due("list " + l, Check.list(x, l, "cue 1 { }"), -1);
            Check.due("the fault stays", x.fault(), 2);
        }
        int[] noLock = {-1, 8, Integer.MIN_VALUE, Integer.MAX_VALUE};
        for (int n : noLock) {
            Check.due("lock " + n, Check.lock(x, n, "event 1"), -1);
            Check.due("the fault stays behind a lock", x.fault(), 2);
        }
        x.cut(99);
        x.tick(501);
        Check.due("no other call counts", x.fault(), 2);
        Check.rules(x, "");
        Check.due("a list with a fault, of no number", Check.list(x, 4, "?"), -1);
        Check.due("no fault of it", x.fault(), 0);
        Check.due("a lock with a fault, of no number", Check.lock(x, 8, "?"), -1);
        Check.due("nor of that", x.fault(), 0);
    }
}
