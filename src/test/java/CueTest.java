/** Promises 9 to 17 and the lists of 24: what cues track, playing, levels, OUT and the wire. */
public final class CueTest {
    public static void main(String[] args) {
        tracking();
        going();
        playing();
        ofLists();
        fading();
        turning();
        nearest();
        waits();
        follows();
        links();
        calls();
        selfCall();
        masters();
        outsOfLast();
        toldAnew();
        patches();
        curves();
        actsOnRig();
        ticks();
        Check.end();
    }

    private static void tracking() {
        StageHouse x = new StageHouse();
        Check.list(x, 1, "cue 1 { channels 1-3 at 10; channels 2 at 20; } cue 1.5 { channels 3 at 30; }"
                + "cue 2 block { channels 4 at 40; } cue 3 { } cue 4 { channels 64 at 255; channels 1-64 at 1; }");
        Check.due("told", x.tracks(1, 1, 0, 1), 10);
        Check.due("the last one counts", x.tracks(1, 1, 0, 2), 20);
        Check.due("not named in the first", x.tracks(1, 1, 0, 4), 0);
        Check.due("from before", x.tracks(1, 1, 5, 2), 20);
        Check.due("its own", x.tracks(1, 1, 5, 3), 30);
        Check.due("blocked", x.tracks(1, 2, 0, 3), 0);
        Check.due("told in the block", x.tracks(1, 2, 0, 4), 40);
        Check.due("from the block", x.tracks(1, 3, 0, 4), 40);
        Check.due("not beyond the block", x.tracks(1, 3, 0, 1), 0);
        Check.due("all at last", x.tracks(1, 4, 0, 64), 1);
        Check.due("no channel 0", x.tracks(1, 1, 0, 0), -1);
        Check.due("no channel 65", x.tracks(1, 1, 0, 65), -1);
        Check.due("no such cue", x.tracks(1, 1, 1, 1), -1);
        Check.due("no such list", x.tracks(4, 1, 0, 1), -1);
        Check.due("nor below", x.tracks(-1, 1, 0, 1), -1);
        Check.due("another list", x.tracks(0, 1, 0, 1), -1);
        Check.due("halves are not mixed up", x.tracks(1, 0, 100, 1), -1);
        Check.due("nor with 150", x.tracks(1, 0, 150, 1), -1);
        Check.due("nor below 0", x.tracks(1, 2, -100, 1), -1);
        Check.due("nor by overflow", x.tracks(1, 42949674, -1, 1), -1);
    }

    private static void going() {
        StageHouse x = new StageHouse();
        Check.no("no cues", x.go(0));
        Check.no("no such list", x.go(4));
        Check.no("nor below", x.go(-1));
        Check.list(x, 0, "cue 1 { } cue 2.5 { }");
        Check.yes("the first", x.go(0));
        Check.due("is 1", x.of(0, 0), 100);
        Check.yes("the next", x.go(0));
        Check.due("is 2.5", x.of(0, 0), 205);
        Check.no("none behind", x.go(0));
        Check.due("stays", x.of(0, 0), 205);
    }

    private static void playing() {
        StageHouse x = new StageHouse();
        Check.list(x, 2, "cue 1 { } cue 1.5 { channels 1 at 9; } cue 3 { }");
        Check.yes("plays 1.5", x.play(2, 1, 5));
        Check.due("its level", x.level(2, 1), 9);
        Check.yes("again", x.play(2, 1, 5));
        Check.no("no 1.6", x.play(2, 1, 6));
        Check.no("no 2", x.play(2, 2, 0));
        Check.no("no list", x.play(4, 1, 0));
        Check.no("not in that list", x.play(0, 1, 0));
        Check.no("0 and 105", x.play(2, 0, 105));
        Check.no("2 and 100 is not 3", x.play(2, 2, 100));
        Check.no("4 and -100 is not 3", x.play(2, 4, -100));
        Check.due("stays", x.of(2, 0), 105);
        Check.yes("back", x.play(2, 1, 0));
        Check.due("level of 1", x.level(2, 1), 0);
    }

    private static void ofLists() {
        StageHouse x = new StageHouse();
        Check.due("no list", x.of(4, 0), -1);
        Check.due("no list below", x.of(-1, 0), -1);
        Check.due("no what", x.of(0, 6), -1);
        Check.due("no what below", x.of(0, -1), -1);
        Check.due("begins", x.of(0, 1), 0);
        Check.due("goes", x.of(0, 2), -1);
        Check.due("channels", x.of(0, 4), 0);
        Check.list(x, 0, "cue 1 up 10 wait 3 follow 7 { channels 1-5 at 100; }");
        Check.due("cues", x.of(0, 5), 1);
        x.go(0);
        Check.due("till it begins", x.of(0, 1), 3);
        Check.due("goes when it begins", x.of(0, 2), -1);
        Check.due("no channel moves", x.of(0, 4), 0);
        x.tick(2);
        Check.due("one more", x.of(0, 1), 1);
        x.tick(1);
        Check.due("it did", x.of(0, 1), 0);
        Check.due("till it goes", x.of(0, 2), 7);
        Check.due("five move", x.of(0, 4), 5);
        x.tick(6);
        Check.due("one till it goes", x.of(0, 2), 1);
        x.tick(1);
        Check.due("it has nowhere to go", x.of(0, 2), -1);
        Check.due("still its cue", x.of(0, 0), 100);
        x.tick(3);
        Check.due("all there", x.of(0, 4), 0);
    }

    private static void fading() {
        StageHouse x = new StageHouse();
        Check.list(x, 0, "cue 1 up 4 down 2 { channels 1 at 100; channels 2 at 50; } cue 2 up 4 down 2 { channels 1 at 0; channels 2 at 150; }");
        x.go(0);
        Check.due("from where it is", x.level(0, 1), 0);
        x.tick(1);
        Check.due("a quarter", x.level(0, 1), 25);
        Check.due("12.5 is 13", x.level(0, 2), 13);
        x.tick(3);
        Check.due("there", x.level(0, 1), 100);
        x.go(0);
        x.tick(1);
        Check.due("down in 2", x.level(0, 1), 50);
        Check.due("up in 4", x.level(0, 2), 75);
        x.tick(1);
        Check.due("down", x.level(0, 1), 0);
        Check.due("half way up", x.level(0, 2), 100);
        x.tick(2);
        Check.due("up", x.level(0, 2), 150);
        x.tick(500);
        Check.due("stays up", x.level(0, 2), 150);
        Check.due("no channel 0", x.level(0, 0), -1);
        Check.due("no channel 65", x.level(0, 65), -1);
        Check.due("no list 4", x.level(4, 1), -1);
        Check.due("no list below", x.level(-1, 1), -1);
        Check.due("another list", x.level(1, 1), 0);
    }

    /** A channel whose target stays goes on as it did; another one turns from where it is. */
    private static void turning() {
        StageHouse x = new StageHouse();
        Check.list(x, 0, "cue 1 up 10 { channels 1,2 at 100; } cue 2 up 2 down 5 { channels 2 at 20; } cue 3 up 2 { }"
                + "cue 4 down 4 up 3 { channels 2 at 20; channels 1 at 60; }");
        x.go(0);
        x.tick(5);
        x.go(0);
        Check.due("half way", x.level(0, 2), 50);
        x.tick(1);
        Check.due("goes on", x.level(0, 1), 60);
        Check.due("turns by down", x.level(0, 2), 44);
        x.go(0);
        x.tick(1);
        Check.due("a cue without a change", x.level(0, 2), 38);
        x.play(0, 4, 0);
        Check.due("at 70", x.level(0, 1), 70);
        x.tick(1);
        Check.due("67.5 is 68", x.level(0, 1), 68);
        x.tick(3);
        Check.due("at 60", x.level(0, 1), 60);
        StageHouse y = new StageHouse();
        Check.list(y, 0, "cue 1 up 10 { channels 1 at 100; } cue 2 up 4 down 8 { channels 1 at 50; }");
        y.go(0);
        y.tick(5);
        y.go(0);
        Check.due("is there already", y.of(0, 4), 0);
        y.tick(20);
        Check.due("stays there", y.level(0, 1), 50);
    }

    private static void nearest() {
        StageHouse x = new StageHouse();
        Check.list(x, 0, "cue 1 { channels 1 at 3; } cue 2 down 2 { channels 1 at 0; } cue 3 up 7 { channels 1 at 255; }");
        x.go(0);
        x.go(0);
        x.tick(1);
        Check.due("3 less 1.5 is 2: the greater of two alike", x.level(0, 1), 2);
        x.tick(1);
        x.go(0);
        int[] want = {36, 73, 109, 146, 182, 219, 255};
        for (int k = 0; k < 7; k++) {
            x.tick(1);
            Check.due("sevenths of 255", x.level(0, 1), want[k]);
        }
    }

    private static void waits() {
        StageHouse x = new StageHouse();
        Check.list(x, 0, "cue 1 wait 2 { channels 1 at 5; fire 1; } cue 2 wait 3 { channels 1 at 6; }");
        Check.lock(x, 0, "event 1");
        x.go(0);
        Check.due("not yet", x.level(0, 1), 0);
        x.tick(1);
        Check.due("not yet", x.level(0, 1), 0);
        x.go(0);
        x.tick(1);
        Check.due("the first one does not come", x.level(0, 1), 0);
        Check.due("nor its acts", x.axisAt(0, 6), 0);
        x.tick(1);
        Check.due("one more", x.of(0, 1), 1);
        x.tick(1);
        Check.due("begins", x.level(0, 1), 6);
    }

    private static void follows() {
        StageHouse x = new StageHouse();
        Check.list(x, 0, "cue 1 follow 2 { channels 1 at 1; } cue 2 wait 1 follow 1 { channels 1 at 2; } cue 3 { channels 1 at 3; }");
        x.go(0);
        x.tick(1);
        Check.due("1 yet", x.of(0, 0), 100);
        x.tick(1);
        Check.due("2 is played", x.of(0, 0), 200);
        Check.due("it waits", x.of(0, 1), 1);
        Check.due("level of 1", x.level(0, 1), 1);
        x.tick(1);
        Check.due("2 begins", x.level(0, 1), 2);
        Check.due("goes in 1", x.of(0, 2), 1);
        x.tick(1);
        Check.due("3", x.level(0, 1), 3);
        x.play(0, 1, 0);
        x.tick(1);
        x.play(0, 3, 0);
        x.tick(5);
        Check.due("what was to follow does not come", x.of(0, 0), 300);
        StageHouse y = new StageHouse();
        Check.list(y, 3, "cue 1 follow 1 { channels 1 at 1; } cue 2 follow 1 link 1 { channels 1 at 2; }");
        y.go(3);
        y.tick(500);
        Check.due("round and round", y.of(3, 0), 100);
        y.tick(499);
        Check.due("round and round", y.of(3, 0), 200);
    }

    private static void links() {
        StageHouse x = new StageHouse();
        Check.list(x, 0, "cue 1 link 3 { } cue 2 link 9 { } cue 3 link 1.5 { } cue 4 link 4 { }");
        x.go(0);
        x.go(0);
        Check.due("by link", x.of(0, 0), 300);
        x.go(0);
        Check.due("no such link: the next", x.of(0, 0), 400);
        Check.yes("itself", x.go(0));
        Check.due("itself", x.of(0, 0), 400);
        x.play(0, 2, 0);
        x.go(0);
        Check.due("no 9: the next", x.of(0, 0), 300);
    }

    private static void calls() {
        StageHouse x = new StageHouse();
        Check.list(x, 0, "cue 1 { go 1 5; go 2 6.5; go 3 1; }");
        Check.list(x, 1, "cue 5 { channels 1 at 50; }");
        Check.list(x, 2, "cue 6 { } cue 6.5 wait 3 { channels 1 at 60; }");
        x.go(0);
        Check.due("plays it", x.of(1, 0), 500);
        Check.due("in a tick", x.of(1, 1), 1);
        Check.due("not yet", x.level(1, 1), 0);
        Check.due("its own wait", x.of(2, 1), 3);
        Check.due("has it not", x.of(3, 0), 0);
        x.tick(1);
        Check.due("begins", x.level(1, 1), 50);
        x.tick(2);
        Check.due("begins", x.level(2, 1), 60);
        StageHouse y = new StageHouse();
        Check.list(y, 0, "cue 1 wait 1 { go 1 1; }");
        Check.list(y, 1, "cue 1 { go 0 1; channels 1 at 8; }");
        y.go(0);
        y.tick(1);
        Check.due("a list behind does not begin in the same tick", y.level(1, 1), 0);
        y.tick(1);
        Check.due("but in the next", y.level(1, 1), 8);
        Check.due("calls back", y.of(0, 1), 1);
        y.tick(500);
        Check.due("for ever", y.of(0, 0), 100);
    }

    private static void selfCall() {
        StageHouse x = new StageHouse();
        Check.list(x, 0, "cue 1 follow 2 { go 0 3; fire 1; master 0 at 7; } cue 2 { channels 1 at 2; } cue 3 wait 4 { channels 1 at 3; }");
        Check.lock(x, 0, "event 1");
        x.go(0);
        Check.due("its cue is 3", x.of(0, 0), 300);
        Check.due("acts behind it are done", x.axisAt(0, 6), 1);
        Check.due("all of them", x.of(0, 3), 7);
        Check.due("no follow", x.of(0, 2), -1);
        x.tick(3);
        Check.due("no follow came", x.of(0, 0), 300);
        Check.due("nor level", x.level(0, 1), 0);
        x.tick(1);
        Check.due("3 began", x.level(0, 1), 3);
    }

    private static void masters() {
        StageHouse x = new StageHouse();
        Check.list(x, 0, "cue 1 { channels 1,60 at 200; master 0 at 128; master 1 at 0; }");
        Check.list(x, 1, "cue 1 { channels 1 at 250; channels 2 at 255; }");
        x.go(1);
        Check.due("250", x.out(1), 250);
        x.go(0);
        Check.due("master", x.of(0, 3), 128);
        Check.due("100.39 is 100", x.out(1), 100);
        Check.due("master 0", x.out(2), 0);
        Check.due("no master from 49 on", x.out(60), 200);
        Check.due("a level is without master", x.level(1, 1), 250);
        Check.due("no out 0", x.out(0), -1);
        Check.due("no out 65", x.out(65), -1);
        Check.list(x, 2, "cue 1 { channels 1 at 101; channels 3 at 1; master 2 at 128; master 3 at 127; }");
        Check.list(x, 3, "cue 1 { channels 4 at 1; }");
        x.go(2);
        x.go(3);
        Check.due("50.7 is below 100", x.out(1), 100);
        Check.due("128 of 255 is 1", x.out(3), 1);
        Check.due("127 of 255 is 0", x.out(4), 0);
    }

    private static void outsOfLast() {
        StageHouse x = new StageHouse();
        Check.list(x, 0, "cue 1 { channels 48-50 at 200; } cue 2 { channels 50 at 200; } cue 3 { channels 49 at 10; }");
        Check.list(x, 1, "cue 1 { channels 48,49 at 100; } cue 2 { channels 49 at 0; }");
        Check.due("none", x.out(49), 0);
        x.go(0);
        x.go(1);
        Check.due("48 is the greatest", x.out(48), 200);
        Check.due("49 is the last", x.out(49), 100);
        Check.due("50 of list 0", x.out(50), 200);
        x.go(0);
        Check.due("no other target, no change", x.out(49), 100);
        x.go(1);
        Check.due("0 by the last", x.out(49), 0);
        x.go(0);
        Check.due("list 0 again", x.out(49), 10);
    }

    private static void toldAnew() {
        StageHouse x = new StageHouse();
        Check.list(x, 0, "cue 1 follow 3 { channels 1,49 at 200; master 0 at 9; } cue 2 { }");
        Check.list(x, 1, "cue 1 { channels 49,50 at 7; }");
        x.go(1);
        x.go(0);
        Check.due("owned by 0", x.out(49), 200);
        Check.due("anew", Check.list(x, 0, "cue 1 { } cue 2 { }"), 2);
        Check.due("no cue", x.of(0, 0), 0);
        Check.due("no follow", x.of(0, 2), -1);
        Check.due("master", x.of(0, 3), 255);
        Check.due("level", x.level(0, 1), 0);
        Check.due("none did", x.out(49), 0);
        Check.due("another's stays", x.out(50), 7);
        x.tick(5);
        Check.due("nothing follows", x.of(0, 0), 0);
        Check.list(x, 0, "cue 1 wait 2 { channels 1 at 5; }");
        x.go(0);
        Check.list(x, 0, "cue 1 wait 2 { channels 1 at 5; }");
        Check.due("no wait", x.of(0, 1), 0);
        x.tick(3);
        Check.due("nothing comes", x.level(0, 1), 0);
        x.go(0);
        Check.due("a fault", Check.list(x, 0, "cue 0"), -14);
        x.tick(2);
        Check.due("leaves all", x.level(0, 1), 5);
    }

    private static void patches() {
        StageHouse x = new StageHouse();
        Check.list(x, 0, "cue 1 { channels 1 at 90; channels 64 at 30; }");
        x.go(0);
        Check.yes("first byte", x.patch(0, 1, 0));
        Check.yes("last byte", x.patch(127, 64, 0));
        Check.no("byte below", x.patch(-1, 1, 0));
        Check.no("byte above", x.patch(128, 1, 0));
        Check.no("channel below", x.patch(0, -1, 0));
        Check.no("channel above", x.patch(0, 65, 0));
        Check.no("curve below", x.patch(0, 2, -1));
        Check.no("curve above", x.patch(0, 2, 4));
        Check.no("curve above for none", x.patch(0, 0, 4));
        Check.due("as it was", x.wire(0), 90);
        Check.due("last", x.wire(127), 30);
        Check.due("not patched", x.wire(1), 0);
        Check.due("no byte 128", x.wire(128), -1);
        Check.due("no byte below", x.wire(-1), -1);
        Check.yes("none", x.patch(0, 0, 3));
        Check.due("0 without a channel", x.wire(0), 0);
    }

    private static void curves() {
        StageHouse x = new StageHouse();
        Check.list(x, 0, "cue 1 { channels 1 at 127; channels 2 at 128; channels 3 at 255; channels 4 at 12; channels 5 at 0; }");
        x.go(0);
        int[][] want = {{127, 63, 0, 128}, {128, 64, 255, 127}, {255, 255, 255, 0}, {12, 1, 0, 243}, {0, 0, 0, 255}};
        for (int c = 0; c < 5; c++) {
            for (int curve = 0; curve < 4; curve++) {
                x.patch(c, c + 1, curve);
                Check.due("curve " + curve + " of channel " + (c + 1), x.wire(c), want[c][curve]);
            }
        }
        Check.no("grand below", x.grand(-1));
        Check.no("grand above", x.grand(256));
        Check.due("grand as it was", x.wire(4), 255);
        Check.yes("grand", x.grand(100));
        Check.due("behind the curve", x.wire(4), 100);
        Check.due("243 of 100", x.wire(3), 95);
        Check.yes("grand 0", x.grand(0));
        Check.due("dark", x.wire(4), 0);
        Check.yes("grand 255", x.grand(255));
        Check.due("full", x.wire(4), 255);
        Check.due("out is without grand", x.out(3), 255);
    }

    private static void actsOnRig() {
        StageHouse x = new StageHouse();
        x.axis(2, 10, 100, 5, 5);
        Check.lock(x, 2, "event 4");
        Check.list(x, 0, "cue 1 { axis 2 to 50; fire 4; axis 2 to 60; axis 2 to 101; axis 3 to 5; } cue 2 { let 2; let 3; }");
        x.go(0);
        Check.due("in order", x.axisAt(2, 3), 60);
        Check.due("refused twice", x.axisAt(2, 7), 2);
        Check.due("one that is not there", x.axisAt(3, 7), 1);
        x.go(0);
        Check.due("let", x.axisAt(2, 3), -1);
    }

    private static void ticks() {
        StageHouse x = new StageHouse();
        Check.due("none", x.tick(0), 0);
        Check.due("below", x.tick(-1), -1);
        Check.due("above", x.tick(501), -1);
        Check.due("nothing changed", x.told(5), 0);
        Check.due("500", x.tick(500), 500);
        Check.due("and 1", x.tick(1), 501);
        // List 0 fires in its turn, so that list 1's axis act of the same tick finds the lock true, not the other way.
        Check.list(x, 0, "cue 1 wait 1 { axis 0 to 5; fire 1; }");
        Check.list(x, 1, "cue 1 wait 1 { axis 0 to 9; }");
        x.axis(0, 0, 10, 1, 1);
        Check.lock(x, 0, "event 1");
        x.go(1);
        x.go(0);
        x.tick(1);
        Check.due("lists by numbers", x.axisAt(0, 3), 9);
        Check.due("one refused", x.axisAt(0, 7), 1);
        Check.due("axes behind lists", x.axisAt(0, 1), 1);
    }
}
