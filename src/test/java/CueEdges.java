/** Promises 9 to 17: cues, levels, OUT and the wire at the ends of what they take. */
final class CueEdges {
    private static final int LEAST = Integer.MIN_VALUE;
    private static final int MOST = Integer.MAX_VALUE;

    private CueEdges() {
    }

    static void run() {
        Check.promise(9);
        tracksNone();
        tracksChannels();
        tracksBefore();
        Check.promise(10);
        goesNowhere();
        goesOn();
        goesByLink();
        goesWhileWaiting();
        Check.promise(11);
        playsNone();
        playsAgain();
        Check.promise(12);
        ofNone();
        waitEdges();
        waitByAct();
        followEdges();
        followTakenAway();
        movingEdges();
        toldAnew();
        optionsAnew();
        Check.promise(13);
        levelNone();
        spans();
        longSpan();
        halves();
        sameTarget();
        allButOne();
        Check.promise(14);
        outNone();
        outMasters();
        outOfLast();
        outToldAnew();
        Check.promise(15);
        patchNone();
        patchEnds();
        Check.promise(16);
        grandEnds();
        grandEach();
        Check.promise(17);
        wireNone();
        curves();
        wireMoves();
    }

    private static void tracksNone() {
        StageHouse x = new StageHouse();
        Check.list(x, 0, "cue 1 { channels 1-64 at 5; } cue 1.1 { } cue 999.99 { }");
        Check.due("first cue", x.tracks(0, 1, 0, 1), 5);
        Check.due("with the least second number", x.tracks(0, 1, 1, 1), 5);
        Check.due("the last cue that can be", x.tracks(0, 999, 99, 64), 5);
        int[] noList = {-1, 4, LEAST, MOST};
        for (int l : noList) {
            Check.due("list " + l, x.tracks(l, 1, 0, 1), -1);
        }
        int[] noChannel = {0, -1, 65, LEAST, MOST};
        for (int c : noChannel) {
            Check.due("channel " + c, x.tracks(0, 1, 0, c), -1);
        }
        int[][] noCue = {{0, 0}, {2, 0}, {1, 2}, {999, 0}, {999, 98}, {1000, 0}, {-1, 0}, {1, -1}, {1, 100}, {0, 100}, {0, 101},
            {2, -100}, {2, -99}, {998, 199}, {LEAST, 0}, {MOST, 0}, {1, LEAST}, {1, MOST}, {42949673, 96}};
        for (int[] name : noCue) {
            Check.due("cue " + name[0] + "." + name[1], x.tracks(0, name[0], name[1], 1), -1);
        }
        for (int l = 1; l < 4; l++) {
            Check.due("a list without cues", x.tracks(l, 1, 0, 1), -1);
        }
    }

    private static void tracksChannels() {
        StageHouse x = new StageHouse();
        Check.list(x, 3, "cue 1 { channels 1,64 at 255; channels 2-2 at 1; channels 31-34 at 7; channels 33 at 0; }"
                + "cue 2 { channels 1-64 at 9; channels 64 at 8; channels 64 at 10; }");
        int[] channels = {1, 2, 3, 30, 31, 32, 33, 34, 35, 63, 64};
        int[] want = {255, 1, 0, 0, 7, 7, 0, 7, 0, 0, 255};
        for (int i = 0; i < channels.length; i++) {
            Check.due("channel " + channels[i], x.tracks(3, 1, 0, channels[i]), want[i]);
            Check.due("all of them, " + channels[i], x.tracks(3, 2, 0, channels[i]), channels[i] == 64 ? 10 : 9);
        }
    }

    private static void tracksBefore() {
        StageHouse x = new StageHouse();
        Check.list(x, 0, "cue 1 block { channels 1 at 1; channels 2 at 2; } cue 2 { channels 2 at 0; } cue 3 { }"
                + "cue 4 block { channels 3 at 4; } cue 5 { } cue 6 block { } cue 7 { }");
        int[][] want = {{1, 2, 0}, {1, 0, 0}, {1, 0, 0}, {0, 0, 4}, {0, 0, 4}, {0, 0, 0}, {0, 0, 0}};
        for (int n = 1; n <= 7; n++) {
            for (int c = 1; c <= 3; c++) {
                Check.due("cue " + n + " of " + c, x.tracks(0, n, 0, c), want[n - 1][c - 1]);
            }
        }
        Check.list(x, 0, "cue 5 { }");
        Check.due("the first one tracks 0", x.tracks(0, 5, 0, 1), 0);
        Check.due("the text is anew", x.tracks(0, 1, 0, 1), -1);
        StringBuilder sixty = new StringBuilder("cue 1 { channels 7 at 77; }");
        for (int n = 2; n <= 60; n++) {
            sixty.append("cue ").append(n).append(" { channels 1 at ").append(n).append("; }");
        }
        Check.due("60 cues", Check.list(x, 1, sixty.toString()), 60);
        Check.due("its own at the last", x.tracks(1, 60, 0, 1), 60);
        Check.due("from the first to the last", x.tracks(1, 60, 0, 7), 77);
        Check.due("no 61", x.tracks(1, 61, 0, 7), -1);
    }

    private static void goesNowhere() {
        StageHouse x = new StageHouse();
        int[] noList = {-1, 4, LEAST, MOST};
        for (int l : noList) {
            Check.no("list " + l, x.go(l));
        }
        for (int l = 0; l < 4; l++) {
            Check.no("a list without cues", x.go(l));
            Check.due("no cue of it", x.of(l, 0), 0);
        }
        Check.list(x, 0, "cue 1 { } cue 2 up 4 follow 9 link 3 { channels 1 at 8; }");
        x.play(0, 2, 0);
        x.tick(1);
        Check.no("none behind, no such link", x.go(0));
        Check.due("its cue", x.of(0, 0), 200);
        Check.due("what is to follow", x.of(0, 2), 8);
        Check.due("its level", x.level(0, 1), 2);
        x.tick(1);
        Check.due("goes on", x.level(0, 1), 4);
    }

    private static void goesOn() {
        StageHouse x = new StageHouse();
        for (int l = 0; l < 4; l++) {
            Check.list(x, l, "cue 3 { } cue 3.5 { } cue 4 { }");
            int[] names = {300, 305, 400};
            for (int name : names) {
                Check.yes("goes", x.go(l));
                Check.due("to", x.of(l, 0), name);
            }
            Check.no("not beyond the last", x.go(l));
            Check.due("the last", x.of(l, 0), 400);
        }
    }

    private static void goesByLink() {
        StageHouse x = new StageHouse();
        Check.list(x, 0, "cue 1 link 3 { } cue 2 link 2.1 { } cue 3 link 2 { } cue 4 link 4 { }");
        int[] names = {100, 300, 200, 300, 200};
        for (int name : names) {
            Check.yes("goes", x.go(0));
            Check.due("by link or behind", x.of(0, 0), name);
        }
        x.play(0, 4, 0);
        Check.yes("the last one's link is itself", x.go(0));
        Check.due("itself", x.of(0, 0), 400);
        Check.list(x, 0, "cue 1 link 1.1 { } cue 1.1 link 999.99 { } cue 999.99 link 1 { }");
        int[] others = {100, 101, 99999, 100};
        for (int name : others) {
            Check.yes("goes", x.go(0));
            Check.due("by whole names", x.of(0, 0), name);
        }
    }

    private static void goesWhileWaiting() {
        StageHouse x = new StageHouse();
        Check.list(x, 0, "cue 1 wait 2 { channels 1 at 1; } cue 2 wait 2 { channels 2 at 2; }");
        x.go(0);
        x.tick(1);
        Check.yes("goes, though the first one waits", x.go(0));
        Check.due("the second", x.of(0, 0), 200);
        Check.due("waits anew", x.of(0, 1), 2);
        x.tick(1);
        Check.due("the first does not come", x.level(0, 1), 0);
        Check.no("none behind", x.go(0));
        Check.due("it waits on", x.of(0, 1), 1);
        x.tick(1);
        Check.due("what the second tracks", x.level(0, 1), 1);
        Check.due("its own level", x.level(0, 2), 2);
    }

    private static void playsNone() {
        StageHouse x = new StageHouse();
        Check.list(x, 0, "cue 1 wait 5 { channels 1 at 7; } cue 2 { }");
        x.go(0);
        x.tick(1);
        int[] noList = {-1, 4, LEAST, MOST, 1, 2, 3};
        for (int l : noList) {
            Check.no("list " + l, x.play(l, 1, 0));
        }
        int[][] noCue = {{0, 0}, {3, 0}, {1, 1}, {1000, 0}, {-1, 0}, {1, -1}, {1, 100}, {0, 100}, {0, 200}, {3, -100},
            {LEAST, 0}, {MOST, 0}, {1, LEAST}, {1, MOST}};
        for (int[] name : noCue) {
            Check.no("cue " + name[0] + "." + name[1], x.play(0, name[0], name[1]));
        }
        Check.due("its cue", x.of(0, 0), 100);
        Check.due("its wait", x.of(0, 1), 4);
        x.tick(4);
        Check.due("it begins", x.level(0, 1), 7);
    }

    private static void playsAgain() {
        StageHouse x = new StageHouse();
        Check.list(x, 0, "cue 1 wait 2 follow 3 { channels 1 at 7; } cue 999.99 { }");
        Check.yes("plays it", x.play(0, 1, 0));
        x.tick(1);
        Check.yes("again while it waits", x.play(0, 1, 0));
        Check.due("the wait is anew", x.of(0, 1), 2);
        x.tick(2);
        Check.due("it began", x.of(0, 2), 3);
        x.tick(2);
        Check.yes("again while it is to follow", x.play(0, 1, 0));
        Check.due("not any more", x.of(0, 2), -1);
        Check.due("the wait is anew again", x.of(0, 1), 2);
        Check.yes("the last name", x.play(0, 999, 99));
        Check.due("is its cue", x.of(0, 0), 99999);
        x.tick(9);
        Check.due("nothing followed", x.of(0, 0), 99999);
    }

    private static void ofNone() {
        StageHouse x = new StageHouse();
        int[] noList = {-1, 4, LEAST, MOST};
        int[] noWhat = {-1, 6, LEAST, MOST};
        for (int none : noList) {
            for (int what = 0; what < 6; what++) {
                Check.due("list " + none, x.of(none, what), -1);
            }
        }
        for (int none : noWhat) {
            for (int l = 0; l < 4; l++) {
                Check.due("what " + none, x.of(l, none), -1);
            }
        }
        Check.list(x, 3, "cue 999.99 { master 0 at 0; master 3 at 1; }");
        x.go(3);
        int[] want = {99999, 0, -1, 1, 0, 1};
        for (int what = 0; what < 6; what++) {
            Check.due("of the last list " + what, x.of(3, what), want[what]);
        }
        Check.due("the least master", x.of(0, 3), 0);
    }

    private static void waitEdges() {
        StageHouse x = new StageHouse();
        Check.list(x, 0, "cue 1 wait 0 { channels 1 at 1; } cue 2 wait 1 { channels 1 at 2; } cue 3 wait 9999 follow 5 { channels 1 at 3; }");
        x.go(0);
        Check.due("at once", x.level(0, 1), 1);
        Check.due("it did", x.of(0, 1), 0);
        x.go(0);
        Check.due("a tick yet", x.of(0, 1), 1);
        Check.due("not yet", x.level(0, 1), 1);
        x.tick(0);
        Check.due("no tick, no change", x.of(0, 1), 1);
        x.tick(1);
        Check.due("over", x.level(0, 1), 2);
        Check.due("it did too", x.of(0, 1), 0);
        x.go(0);
        Check.due("the longest", x.of(0, 1), 9999);
        for (int i = 0; i < 19; i++) {
            x.tick(500);
        }
        x.tick(498);
        Check.due("one more", x.of(0, 1), 1);
        Check.due("has yet to begin", x.of(0, 2), -1);
        Check.due("not yet 3", x.level(0, 1), 2);
        x.tick(1);
        Check.due("it begins", x.level(0, 1), 3);
        Check.due("no wait more", x.of(0, 1), 0);
        Check.due("till it goes", x.of(0, 2), 5);
    }

    private static void waitByAct() {
        StageHouse x = new StageHouse();
        Check.list(x, 0, "cue 1 { go 1 1; go 2 1; go 3 1; go 3 2; }");
        Check.list(x, 1, "cue 1 wait 0 { channels 1 at 1; }");
        Check.list(x, 2, "cue 1 wait 1 { channels 1 at 1; }");
        Check.list(x, 3, "cue 1 wait 2 { channels 1 at 1; }");
        x.go(0);
        Check.due("0 is 1 at least", x.of(1, 1), 1);
        Check.due("1", x.of(2, 1), 1);
        Check.due("2, and it has no cue 2", x.of(3, 1), 2);
        Check.due("no level yet", x.level(1, 1), 0);
        x.tick(1);
        Check.due("begins", x.level(1, 1), 1);
        Check.due("begins too", x.level(2, 1), 1);
        Check.due("not this one", x.level(3, 1), 0);
        x.tick(1);
        Check.due("now it does", x.level(3, 1), 1);
        Check.list(x, 0, "cue 1 { go 0 2; } cue 2 { channels 1 at 2; }");
        x.go(0);
        Check.due("its own list", x.of(0, 0), 200);
        Check.due("in a tick", x.of(0, 1), 1);
        x.tick(1);
        Check.due("began", x.level(0, 1), 2);
    }

    private static void followEdges() {
        StageHouse x = new StageHouse();
        Check.list(x, 0, "cue 1 follow 1 { } cue 2 { } cue 3 follow 9999 { } cue 4 { }");
        x.go(0);
        Check.due("in a tick", x.of(0, 2), 1);
        x.tick(1);
        Check.due("goes", x.of(0, 0), 200);
        Check.due("does not by itself", x.of(0, 2), -1);
        x.tick(500);
        Check.due("stays", x.of(0, 0), 200);
        x.go(0);
        Check.due("the longest", x.of(0, 2), 9999);
        for (int i = 0; i < 19; i++) {
            x.tick(500);
        }
        x.tick(498);
        Check.due("one more", x.of(0, 2), 1);
        Check.due("not yet", x.of(0, 0), 300);
        x.tick(1);
        Check.due("goes at last", x.of(0, 0), 400);
        Check.list(x, 0, "cue 1 follow 2 { channels 1 at 3; }");
        x.go(0);
        x.tick(2);
        Check.due("none is behind: it went nowhere", x.of(0, 0), 100);
        Check.due("and does not go again", x.of(0, 2), -1);
        x.tick(5);
        Check.due("nor later", x.of(0, 2), -1);
    }

    private static void followTakenAway() {
        StageHouse x = new StageHouse();
        Check.list(x, 0, "cue 1 follow 2 { } cue 2 { } cue 3 { }");
        Check.list(x, 1, "cue 1 { go 0 3; } cue 2 { go 0 9; }");
        x.go(0);
        x.tick(1);
        x.play(1, 2, 0);
        Check.due("a go to no cue leaves it", x.of(0, 2), 1);
        x.play(1, 1, 0);
        Check.due("a go takes it away", x.of(0, 2), -1);
        x.tick(5);
        Check.due("nothing followed", x.of(0, 0), 300);
    }

    private static void movingEdges() {
        StageHouse x = new StageHouse();
        Check.list(x, 0, "cue 1 up 2 { channels 1-64 at 255; } cue 2 up 2 down 3 { channels 1-64 at 254; }");
        Check.due("none", x.of(0, 4), 0);
        x.go(0);
        Check.due("all", x.of(0, 4), 64);
        x.tick(1);
        Check.due("all yet", x.of(0, 4), 64);
        x.tick(1);
        Check.due("none any more", x.of(0, 4), 0);
        x.go(0);
        x.tick(1);
        Check.due("255 less a third is 255", x.of(0, 4), 64);
        x.tick(1);
        Check.due("255 less two thirds is 254 already", x.of(0, 4), 0);
    }

    private static void toldAnew() {
        StageHouse x = new StageHouse();
        Check.list(x, 2, "cue 1 up 9 follow 5 { channels 1 at 90; master 2 at 3; }");
        x.go(2);
        x.tick(1);
        Check.due("the same text", Check.list(x, 2, "cue 1 up 9 follow 5 { channels 1 at 90; master 2 at 3; }"), 1);
        int[] want = {0, 0, -1, 255, 0, 1};
        for (int what = 0; what < 6; what++) {
            Check.due("as at first " + what, x.of(2, what), want[what]);
        }
        x.tick(9);
        Check.due("nothing comes", x.of(2, 0), 0);
        Check.due("no level", x.level(2, 1), 0);
        Check.list(x, 2, "cue 1 wait 4 { channels 1 at 5; }");
        x.go(2);
        Check.list(x, 2, "cue 1 wait 4 { channels 1 at 5; }");
        Check.due("nothing is to come", x.of(2, 1), 0);
        x.tick(9);
        Check.due("nor comes it", x.level(2, 1), 0);
    }

    /** A text knows nothing of those told before it, however often one is told. */
    private static void optionsAnew() {
        StageHouse x = new StageHouse();
        for (int turn = 0; turn < 4; turn++) {
            for (int l = 0; l < 4; l++) {
                Check.list(x, l, "cue 1 up 9 down 9 wait 9 follow 9 block link 2 { channels 1 at 9; } cue 2 block { }"
                        + "cue 3 up 9 down 9 wait 9 follow 9 block link 1 { }");
            }
            int l = turn;
            Check.list(x, l, "cue 1 { channels 1,2 at 7; } cue 3 { channels 2 at 1; } cue 4 { }");
            x.go(l);
            Check.due("no wait", x.of(l, 1), 0);
            Check.due("no follow", x.of(l, 2), -1);
            Check.due("no up", x.level(l, 1), 7);
            x.go(l);
            Check.due("no link", x.of(l, 0), 300);
            Check.due("no block", x.level(l, 1), 7);
            Check.due("no down", x.level(l, 2), 1);
            x.go(l);
            Check.due("no link of the third", x.of(l, 0), 400);
            Check.due("no block of the third", x.tracks(l, 4, 0, 1), 7);
        }
    }

    private static void levelNone() {
        StageHouse x = new StageHouse();
        int[] noList = {-1, 4, LEAST, MOST};
        int[] noChannel = {-1, 0, 65, LEAST, MOST};
        for (int l : noList) {
            Check.due("list " + l, x.level(l, 1), -1);
        }
        for (int l = 0; l < 4; l++) {
            for (int c : noChannel) {
                Check.due("channel " + c, x.level(l, c), -1);
            }
            Check.list(x, l, "cue 1 { channels 1 at 1; channels 64 at 255; }");
            x.go(l);
            Check.due("first channel", x.level(l, 1), 1);
            Check.due("between", x.level(l, 2), 0);
            Check.due("last channel", x.level(l, 64), 255);
        }
    }

    private static void spans() {
        StageHouse x = new StageHouse();
        Check.list(x, 0, "cue 1 up 0 down 9 { channels 1,2 at 100; } cue 2 up 9 down 0 { channels 1 at 50; }"
                + "cue 3 up 1 { channels 1 at 60; } cue 4 down 1 { channels 1 at 40; } cue 5 down 9 { channels 1 at 50; }"
                + "cue 6 up 9 { channels 1 at 10; }");
        x.go(0);
        Check.due("up 0 is at once", x.level(0, 1), 100);
        x.go(0);
        Check.due("down 0 is at once", x.level(0, 1), 50);
        x.go(0);
        Check.due("up 1 begins where it is", x.level(0, 1), 50);
        x.tick(1);
        Check.due("and is over in a tick", x.level(0, 1), 60);
        x.go(0);
        Check.due("down 1 begins where it is", x.level(0, 1), 60);
        x.tick(1);
        Check.due("over in a tick too", x.level(0, 1), 40);
        x.go(0);
        Check.due("up was not told: 0", x.level(0, 1), 50);
        x.go(0);
        Check.due("down was not told: 0", x.level(0, 1), 10);
        Check.due("another one stays", x.level(0, 2), 100);
    }

    private static void longSpan() {
        StageHouse x = new StageHouse();
        Check.list(x, 0, "cue 1 up 9999 { channels 1 at 255; }");
        x.go(0);
        x.tick(19);
        Check.due("255 times 19 by 9999 is 0.48", x.level(0, 1), 0);
        x.tick(1);
        Check.due("0.51", x.level(0, 1), 1);
        x.tick(480);
        for (int i = 0; i < 18; i++) {
            x.tick(500);
        }
        x.tick(479);
        Check.due("254.49 at 9979", x.level(0, 1), 254);
        Check.due("moves", x.of(0, 4), 1);
        x.tick(1);
        Check.due("254.52 at 9980", x.level(0, 1), 255);
        x.tick(500);
        Check.due("there for good", x.level(0, 1), 255);
    }

    /** The greater of two alike, whether it goes up or down. */
    private static void halves() {
        StageHouse x = new StageHouse();
        Check.list(x, 0, "cue 1 up 2 down 2 { channels 1 at 1; channels 2 at 255; channels 3 at 3; channels 4 at 2; }"
                + "cue 2 up 2 down 2 { channels 1-4 at 0; }");
        x.go(0);
        x.tick(1);
        int[] up = {1, 128, 2, 1};
        for (int c = 1; c <= 4; c++) {
            Check.due("half way up " + c, x.level(0, c), up[c - 1]);
        }
        x.tick(1);
        x.go(0);
        x.tick(1);
        int[] down = {1, 128, 2, 1};
        for (int c = 1; c <= 4; c++) {
            Check.due("half way down " + c, x.level(0, c), down[c - 1]);
        }
        x.tick(1);
        for (int c = 1; c <= 4; c++) {
            Check.due("down " + c, x.level(0, c), 0);
        }
    }

    /** A beginning that tells no other target leaves the way of a channel, and a new target starts from where it is. */
    private static void sameTarget() {
        StageHouse x = new StageHouse();
        Check.list(x, 0, "cue 1 up 10 { channels 1,2,3 at 100; } cue 2 up 2 down 2 { channels 1 at 100; channels 2 at 50; channels 3 at 51; }");
        x.go(0);
        x.tick(5);
        x.go(0);
        x.tick(1);
        Check.due("goes on as it did", x.level(0, 1), 60);
        Check.due("is where it shall be", x.level(0, 2), 50);
        Check.due("50 and a half is 51", x.level(0, 3), 51);
        x.tick(4);
        Check.due("over at its own time", x.level(0, 1), 100);
    }

    /** A cue that names every channel but one: that one alone is as in the cue before. */
    private static void allButOne() {
        for (int c = 1; c <= 64; c++) {
            StageHouse x = new StageHouse();
            String below = c > 1 ? "1-" + (c - 1) : "";
            String above = c < 64 ? (c + 1) + "-64" : "";
            String others = below + (c > 1 && c < 64 ? "," : "") + above;
            Check.list(x, 2, "cue 1 { channels " + c + " at 100; } cue 2 { channels " + others + " at 50; } cue 3 { }");
            for (int n = 2; n <= 3; n++) {
                x.play(2, n, 0);
                for (int k = 1; k <= 64; k++) {
                    Check.due("all but " + c + " named, cue " + n + " of " + k, x.level(2, k), k == c ? 100 : 50);
                }
            }
        }
    }

    private static void outNone() {
        StageHouse x = new StageHouse();
        Check.list(x, 0, "cue 1 { channels 1-64 at 9; }");
        x.go(0);
        int[] none = {-1, 0, 65, LEAST, MOST};
        for (int c : none) {
            Check.due("channel " + c, x.out(c), -1);
        }
        int[] ends = {1, 48, 49, 64};
        for (int c : ends) {
            Check.due("channel " + c, x.out(c), 9);
        }
    }

    private static void outMasters() {
        StageHouse x = new StageHouse();
        Check.list(x, 0, "cue 1 { channels 47-50 at 1; master 0 at 127; } cue 2 { master 0 at 128; } cue 3 { master 0 at 0; }"
                + "cue 4 { channels 1-64 at 255; master 0 at 1; }");
        x.go(0);
        Check.due("127 of 255 is 0", x.out(48), 0);
        Check.due("from 49 on without master", x.out(49), 1);
        x.go(0);
        Check.due("128 of 255 is 1", x.out(48), 1);
        x.go(0);
        Check.due("master 0", x.out(48), 0);
        Check.due("not at 49", x.out(49), 1);
        x.go(0);
        Check.due("full times 1", x.out(48), 1);
        Check.due("full at 64", x.out(64), 255);
        for (int l = 1; l < 4; l++) {
            Check.list(x, l, "cue 1 { channels 1 at " + 10 * l + "; channels 2 at " + (100 - l) + "; }");
            x.go(l);
        }
        Check.due("the greatest of all", x.out(1), 30);
        Check.due("the greatest of all", x.out(2), 99);
    }

    private static void outOfLast() {
        StageHouse x = new StageHouse();
        Check.list(x, 0, "cue 1 { channels 48-49,64 at 200; } cue 2 { } cue 3 { channels 49 at 201; }");
        Check.list(x, 3, "cue 1 { channels 48-49,64 at 100; } cue 2 wait 1 up 2 { channels 64 at 102; }");
        Check.due("none", x.out(64), 0);
        x.go(0);
        x.go(3);
        Check.due("48 by the greatest", x.out(48), 200);
        Check.due("49 by the last", x.out(49), 100);
        Check.due("64 by the last", x.out(64), 100);
        x.go(0);
        Check.due("no other target", x.out(49), 100);
        x.go(0);
        Check.due("another target", x.out(49), 201);
        Check.due("not of this one", x.out(64), 100);
        x.play(0, 1, 0);
        Check.due("200 again at 49", x.out(49), 200);
        x.go(3);
        Check.due("played, not begun", x.out(49), 200);
        x.tick(2);
        Check.due("begun, of 64 alone", x.out(49), 200);
        Check.due("on its way", x.out(64), 101);
    }

    private static void outToldAnew() {
        StageHouse x = new StageHouse();
        Check.list(x, 0, "cue 1 { channels 49-64 at 10; }");
        Check.list(x, 1, "cue 1 { channels 49 at 20; }");
        x.go(0);
        x.go(1);
        Check.list(x, 2, "cue 1 { }");
        Check.due("another list's text", x.out(49), 20);
        Check.list(x, 1, "?");
        Check.due("a fault", x.out(49), 20);
        Check.list(x, 1, "");
        Check.due("none did", x.out(49), 0);
        Check.due("list 0 did this", x.out(50), 10);
        Check.list(x, 0, "");
        for (int c = 49; c <= 64; c++) {
            Check.due("none did at " + c, x.out(c), 0);
        }
    }

    private static void patchNone() {
        StageHouse x = new StageHouse();
        Check.list(x, 0, "cue 1 { channels 1 at 100; channels 64 at 50; }");
        x.go(0);
        Check.yes("a byte", x.patch(5, 1, 3));
        int[] noByte = {-1, 128, LEAST, MOST};
        for (int b : noByte) {
            Check.no("byte " + b, x.patch(b, 1, 0));
        }
        int[] noChannel = {-1, 65, LEAST, MOST};
        for (int c : noChannel) {
            Check.no("channel " + c, x.patch(5, c, 0));
        }
        int[] noCurve = {-1, 4, LEAST, MOST};
        for (int curve : noCurve) {
            Check.no("curve " + curve, x.patch(5, 64, curve));
            Check.no("no channel, curve " + curve, x.patch(5, 0, curve));
        }
        Check.due("the channel and the curve stay", x.wire(5), 155);
        Check.due("other bytes stay", x.wire(6), 0);
    }

    private static void patchEnds() {
        StageHouse x = new StageHouse();
        Check.list(x, 0, "cue 1 { channels 1 at 100; channels 64 at 50; }");
        x.go(0);
        Check.yes("first byte, first channel, first curve", x.patch(0, 1, 0));
        Check.yes("last byte, last channel, last curve", x.patch(127, 64, 3));
        Check.due("first", x.wire(0), 100);
        Check.due("last", x.wire(127), 205);
        for (int b = 1; b < 127; b++) {
            Check.due("none at " + b, x.wire(b), 0);
        }
        Check.yes("one channel on two bytes", x.patch(1, 1, 0));
        Check.due("both", x.wire(1), x.wire(0));
        Check.yes("no channel", x.patch(127, 0, 3));
        Check.due("0 without a channel, by any curve", x.wire(127), 0);
        Check.yes("no channel, curve 0", x.patch(0, 0, 0));
        Check.due("0 too", x.wire(0), 0);
    }

    private static void grandEnds() {
        StageHouse x = new StageHouse();
        Check.list(x, 0, "cue 1 { channels 1 at 255; channels 2 at 1; }");
        x.go(0);
        x.patch(0, 1, 0);
        x.patch(1, 2, 0);
        Check.due("255 at first", x.wire(0), 255);
        int[] none = {-1, 256, LEAST, MOST};
        Check.yes("127", x.grand(127));
        for (int n : none) {
            Check.no("grand " + n, x.grand(n));
            Check.due("stays", x.wire(0), 127);
        }
        Check.due("1 by 127 is 0", x.wire(1), 0);
        Check.yes("128", x.grand(128));
        Check.due("1 by 128 is 1", x.wire(1), 1);
        Check.yes("the least", x.grand(0));
        Check.due("dark", x.wire(0), 0);
        Check.yes("1", x.grand(1));
        Check.due("a little", x.wire(0), 1);
        Check.yes("the greatest", x.grand(255));
        Check.due("full", x.wire(0), 255);
        Check.due("OUT knows no grand", x.out(1), 255);
    }

    /** Each grand with some levels: the nearest is told. */
    private static void grandEach() {
        int[] levels = {254, 200, 101, 3};
        for (int level : levels) {
            StageHouse x = new StageHouse();
            Check.list(x, 0, "cue 1 { channels 1 at " + level + "; }");
            x.go(0);
            x.patch(0, 1, 0);
            for (int n = 0; n < 256; n += level == 254 ? 2 : 3) {
                x.grand(n);
                Check.due(level + " by " + n, x.wire(0), Math.round(level * n / 255.0));
            }
        }
    }

    private static void wireNone() {
        StageHouse x = new StageHouse();
        int[] none = {-1, 128, LEAST, MOST};
        for (int b : none) {
            Check.due("byte " + b, x.wire(b), -1);
        }
        Check.due("first", x.wire(0), 0);
        Check.due("last", x.wire(127), 0);
    }

    private static void curves() {
        int[] levels = {0, 1, 11, 12, 127, 128, 254, 255};
        int[][] want = {{0, 1, 11, 12, 127, 128, 254, 255}, {0, 0, 0, 1, 63, 64, 253, 255}, {0, 0, 0, 0, 0, 255, 255, 255},
            {255, 254, 244, 243, 128, 127, 1, 0}};
        for (int i = 0; i < levels.length; i++) {
            StageHouse x = new StageHouse();
            Check.list(x, 0, "cue 1 { channels 1,64 at " + levels[i] + "; }");
            x.go(0);
            for (int curve = 0; curve < 4; curve++) {
                x.patch(0, 1, curve);
                x.patch(127, 64, curve);
                Check.due("curve " + curve + " of " + levels[i], x.wire(0), want[curve][i]);
                Check.due("and at the last byte", x.wire(127), want[curve][i]);
            }
            x.grand(128);
            Check.due("grand behind the curve", x.wire(0), Math.round(want[3][i] * 128 / 255.0));
            x.patch(0, 1, 2);
            Check.due("128 and 255 are no less by it", x.wire(0), levels[i] > 127 ? 128 : 0);
        }
    }

    /** A byte goes with its channel tick by tick, whatever the byte's number is. */
    private static void wireMoves() {
        StageHouse x = new StageHouse();
        int[] bytes = {0, 3, 10, 127};
        x.tick(20);
        Check.list(x, 1, "cue 1 up 10 { channels 1,64 at 200; } cue 2 down 4 { channels 1,64 at 0; }");
        x.go(1);
        for (int tick = 0; tick <= 14; tick++) {
            int level = tick <= 10 ? 20 * tick : 200 - 50 * (tick - 10);
            int[] want = {level, Math.toIntExact(Math.round(level * level / 255.0)), level > 127 ? 255 : 0, 255 - level};
            for (int b : bytes) {
                for (int curve = 0; curve < 4; curve++) {
                    x.patch(b, b == 3 ? 64 : 1, curve);
                    Check.due("byte " + b + " by curve " + curve + " in tick " + tick, x.wire(b), want[curve]);
                }
            }
            if (tick == 10) {
                x.go(1);
            }
            x.tick(1);
        }
    }
}
