import java.util.ArrayList;
import java.util.List;

/**
 * What is refused changes nothing. Of two houses alike one hears the refused call; then both hear the same calls,
 * whose answers must be the same. Each of the runs that look begins with a house of its own, to stay within 512 calls.
 */
final class Refusals {
    private interface Call {
        long on(StageHouse x);
    }

    private interface Look {
        void at(StageHouse x, StringBuilder seen);
    }

    private static final int LEAST = Integer.MIN_VALUE;
    private static final int MOST = Integer.MAX_VALUE;
    private static final String TEXT = "event 7|event 8";
    private static final int[] ODD = {LEAST, -1, MOST};
    private static final List<Look> LOOKS = List.of(Refusals::lookAtTape, Refusals::lookAtLists, Refusals::lookAtOuts, Refusals::lookAtWire,
            Refusals::lookAtAxes, Refusals::lookAtEvents, Refusals::lookAtHolds, Refusals::lookAtSeats, Refusals::lookAtDesks,
            Refusals::lookAtMoney, Refusals::lookAtWays);

    private static final List<String> USUAL = looks(x -> { });
    private static final List<String> TAPE_GONE = looks(x -> x.cut(0));

    private Refusals() {
    }

    static void run() {
        soundHouse();
        tape();
        texts();
        lists();
        wire();
        axes();
        ticks();
        hall();
        asks();
        tickets();
        tellers();
        ways();
        toCounts();
    }

    // ---- the house

    /** Something of everything, all of it under way. */
    private static StageHouse house() {
        StageHouse x = new StageHouse();
        Check.list(x, 0, "cue 1 up 40 follow 50 { channels 1-9,50 at 200; } cue 2 wait 3 link 1 { channels 1-60 at 90; }");
        Check.list(x, 1, "cue 1 { channels 50,55 at 30; master 2 at 99; } cue 2.5 wait 20 { channels 7 at 255; fire 3; axis 0 to 9; }");
        Check.list(x, 2, "cue 1 { } cue 9 down 30 follow 60 link 8 { channels 2 at 250; }");
        x.go(0);
        x.go(1);
        x.go(1);
        x.play(2, 9, 0);
        x.patch(0, 1, 1);
        x.patch(127, 55, 3);
        x.grand(200);
        Check.lock(x, 3, "event 5");
        Check.lock(x, 4, "axis 0 > 20 & still 1");
        for (int n = 0; n < 5; n++) {
            x.axis(n, 5, 900, 12, 2);
        }
        x.to(0, 800);
        x.to(1, 700);
        x.to(3, 10);
        x.faults(1, 2);
        x.faults(2, 1);
        x.event(2, true);
        Check.rules(x, "many 2: - 3; kind 1: % 50;");
        Check.shares(x, "0: 50 % of taken + 10 % of 2; 2: 25 % of 0 + 7;");
        hallOf(x);
        for (int w = 0; w < 20; w++) {
            int from = w % 11;
            x.way(from, from < 9 && w % 2 == 1 ? from + 1 : 11, 2, 3);
        }
        x.crowd(0, 9);
        x.crowd(9, 20);
        Check.text(x, TEXT);
        return x;
    }

    /** Ticket 0 is open, 1 has entered, 2 is given back; holds 0, 1, 3. */
    private static void hallOf(StageHouse x) {
        x.section(0, 20);
        x.section(7, 30);
        x.row(0, 0, 20);
        x.row(1, 0, 9);
        x.row(39, 7, 30);
        for (int t = 0; t < 3; t++) {
            x.ask(t, 0, 2, 0, 0, 90);
            x.pay(0, 37);
        }
        x.enter(1);
        x.back(3, 2);
        x.ask(0, 7, 3, 1, 2, 30);
        x.ask(1, 0, 1, 0, 0, 12);
        x.ask(2, 0, 2, 0, 6, 40);
        x.ask(3, 7, 4, 3, 6, MOST);
        x.give(2);
        x.line(2, false);
        x.tick(10);
    }

    private static void soundHouse() {
        Check.promise(28);
        StageHouse x = house();
        Check.due("holds of the house", x.told(3), 3);
        Check.due("tickets of the house", x.told(1), 2);
        Check.due("entered", x.told(4), 2);
        Check.promise(37);
        Check.due("ways are full", x.way(0, 11, 1, 1), -1);
        Check.yes("all come out", x.empty() > 0);
        Check.promise(10);
        Check.due("list 0 is on its way", x.of(0, 4) > 0 ? 1 : 0, 1);
        Check.due("list 1 waits", x.of(1, 1), 10);
        Check.due("list 2 is to go", x.of(2, 2), 50);
    }

    // ---- what is looked at

    private static List<String> looks(java.util.function.Consumer<StageHouse> first) {
        List<String> all = new ArrayList<>();
        for (Look look : LOOKS) {
            StageHouse x = house();
            first.accept(x);
            StringBuilder seen = new StringBuilder();
            look.at(x, seen);
            all.add(seen.toString());
        }
        return all;
    }

    private static void add(StringBuilder seen, long answer) {
        seen.append(answer).append(' ');
    }

    private static void lookAtTape(StageHouse x, StringBuilder seen) {
        add(seen, x.fault());
        int length = 40;
        while (length > 0 && x.cut(length) < 0) {
            length--;
        }
        add(seen, length);
        add(seen, x.lock(6));
        for (int e = 7; e <= 8; e++) {
            add(seen, x.axisAt(6, 6));
            x.event(e, true);
            add(seen, x.axisAt(6, 6));
            x.event(e, false);
        }
    }

    private static void lookAtLists(StageHouse x, StringBuilder seen) {
        for (int turn = 0; turn < 8; turn++) {
            for (int l = 0; l < 4; l++) {
                for (int what = 0; what < 6; what++) {
                    add(seen, x.of(l, what));
                }
                add(seen, x.level(l, 2));
                add(seen, x.level(l, 50));
            }
            x.tick(turn * 5);
        }
        for (int l = 0; l < 3; l++) {
            add(seen, x.tracks(l, 1, 0, 50));
            add(seen, x.tracks(l, 2, 5, 7));
            add(seen, x.go(l) ? 1 : 0);
            add(seen, x.of(l, 0));
        }
    }

    private static void lookAtOuts(StageHouse x, StringBuilder seen) {
        for (int turn = 0; turn < 5; turn++) {
            for (int c = 1; c <= 64; c++) {
                add(seen, x.out(c));
            }
            x.tick(7);
        }
    }

    private static void lookAtWire(StageHouse x, StringBuilder seen) {
        for (int b = 0; b < 128; b++) {
            add(seen, x.wire(b));
        }
        x.tick(12);
        for (int b = 0; b < 128; b++) {
            add(seen, x.wire(b));
        }
    }

    private static void lookAtAxes(StageHouse x, StringBuilder seen) {
        for (int turn = 0; turn < 4; turn++) {
            for (int n = 0; n < 8; n++) {
                for (int what = 0; what < 8; what++) {
                    add(seen, x.axisAt(n, what));
                }
            }
            x.tick(3 + 20 * turn);
        }
        for (int n = 0; n < 6; n++) {
            x.faults(n, 0);
            add(seen, x.to(n, 900) ? 1 : 0);
            add(seen, x.to(n, 5) ? 1 : 0);
        }
        x.tick(30);
        for (int n = 0; n < 6; n++) {
            add(seen, x.axisAt(n, 1));
            add(seen, x.axisAt(n, 2));
        }
    }

    private static void lookAtEvents(StageHouse x, StringBuilder seen) {
        for (int e = 0; e < 16; e++) {
            x.cut(0);
            Check.lock(x, 7, "event " + e);
            add(seen, x.axisAt(7, 6));
        }
        for (int what = 0; what < 8; what++) {
            add(seen, x.told(what));
        }
    }

    private static void lookAtHolds(StageHouse x, StringBuilder seen) {
        for (int h = 0; h < 60; h++) {
            add(seen, x.hold(h, 0));
        }
        for (int turn = 0; turn < 5; turn++) {
            for (int h = 0; h < 6; h++) {
                for (int what = 0; what < 5; what++) {
                    add(seen, x.hold(h, what));
                }
            }
            x.tick(7);
        }
    }

    private static void lookAtSeats(StageHouse x, StringBuilder seen) {
        for (int r = 0; r < 40; r++) {
            add(seen, x.seat(r, 0));
            add(seen, x.seat(r, 8));
        }
        for (int k = 0; k < 31; k++) {
            add(seen, x.seat(0, k));
            add(seen, x.seat(1, k));
            add(seen, x.seat(39, k));
        }
    }

    private static void lookAtDesks(StageHouse x, StringBuilder seen) {
        for (int turn = 0; turn < 4; turn++) {
            for (int desk = 0; desk < 4; desk++) {
                for (int s = 0; s < 8; s += 7) {
                    int h = x.ask(desk, s, 1 + turn % 2, desk, 6, 200 + desk);
                    for (int what = 0; what < 5; what++) {
                        add(seen, x.hold(h, what));
                    }
                }
            }
        }
        for (int s = 1; s < 7; s++) {
            add(seen, x.ask(0, s, 1, 0, 0, 900));
        }
    }

    private static void lookAtMoney(StageHouse x, StringBuilder seen) {
        for (int p = 0; p < 3; p++) {
            for (int what = 0; what < 4; what++) {
                add(seen, x.share(p, what));
            }
        }
        add(seen, x.hold(3, 3));
        add(seen, x.pay(3, x.hold(3, 3)));
        for (int t = 0; t < 5; t++) {
            add(seen, x.back(2, t));
            add(seen, x.back(1, t));
            add(seen, x.enter(t));
        }
        for (int what = 0; what < 8; what++) {
            add(seen, x.told(what));
        }
        for (int p = 0; p < 3; p++) {
            add(seen, x.share(p, 0));
        }
    }

    private static void lookAtWays(StageHouse x, StringBuilder seen) {
        add(seen, x.empty());
        for (int node = 0; node < 11; node++) {
            x.crowd(node, node == 9 ? 0 : node);
            add(seen, x.empty());
        }
        for (int node = 0; node < 11; node++) {
            x.crowd(node, 0);
            add(seen, x.empty());
        }
        x.clearWays();
        add(seen, x.way(0, 11, 1, 1));
    }

    // ---- what is refused

    private static void refused(int promise, String name, long answer, Call call) {
        refused(promise, name, answer, call, USUAL);
    }

    private static void refused(int promise, String name, long answer, Call call, List<String> want) {
        Check.promise(promise);
        for (int i = 0; i < LOOKS.size(); i++) {
            StageHouse x = house();
            Check.due("refused " + name, call.on(x), answer);
            StringBuilder seen = new StringBuilder();
            LOOKS.get(i).at(x, seen);
            Check.same("what is behind the refused " + name + ", look " + i, seen.toString(), want.get(i));
        }
    }

    private static long number(boolean yes) {
        return yes ? 1 : 0;
    }

    private static void tape() {
        int[] none = {LEAST, -1, 16, MOST};
        for (int n : none) {
            refused(3, "cut " + n, -1, x -> x.cut(n));
        }
        Check.promise(2);
        StageHouse x = new StageHouse();
        Check.text(x, "day 1:-1;" + Check.many(" ", 3972));
        for (int i = 0; i < 3; i++) {
            Check.due("refused feed", x.feed(0x3f3f3f3f, 0x3f3f3f3f, 0x3f3f3f3f, 0x3f3f3f3f, 0x3f3f3f3f), -1);
        }
        Check.due("its length stays", x.cut(3981), 0);
        Check.due("its bytes stay", x.rules(), 1);
    }

    /** The tape is used up by them, and nothing else is changed. */
    private static void texts() {
        int[] noList = {LEAST, -1, 4, MOST};
        for (int l : noList) {
            refused(4, "list " + l, -1, x -> x.list(l), TAPE_GONE);
            refused(4, "sound list " + l, -1, x -> anew(x, "cue 1 { }") + x.list(l), TAPE_GONE);
        }
        int[] noLock = {LEAST, -1, 8, MOST};
        for (int n : noLock) {
            refused(5, "lock " + n, -1, x -> x.lock(n), TAPE_GONE);
        }
        for (int l = 0; l < 4; l++) {
            int list = l;
            faulty(4, "list " + l, -24, x -> anew(x, "cue 9 { } cue 1 { }") + x.list(list));
        }
        for (int n = 0; n < 8; n++) {
            int axis = n;
            faulty(5, "lock " + n, -26, x -> anew(x, "event 1 | event 16") + x.lock(axis));
        }
        faulty(6, "rules", -24, x -> anew(x, "day 1:+9;many 0:-9;") + x.rules());
        faulty(7, "shares", -22, x -> anew(x, "1: 5; 0: 8; 1: 1;") + x.shares());
    }

    /** Another text stands on the tape; answers 0. */
    private static long anew(StageHouse x, String text) {
        x.cut(0);
        Check.text(x, text);
        return 0;
    }

    /** All but fault(), which the first look tells first, is as if the tape alone had gone. */
    private static void faulty(int promise, String name, long answer, Call call) {
        Check.promise(promise);
        for (int i = 0; i < LOOKS.size(); i++) {
            StageHouse x = house();
            Check.due("faulty " + name, call.on(x), answer);
            int fault = x.fault();
            StringBuilder seen = new StringBuilder();
            LOOKS.get(i).at(x, seen);
            String want = TAPE_GONE.get(i);
            if (i == 0) {
                want = fault + want.substring(1);
            }
            Check.same("what is behind the faulty " + name + ", look " + i, seen.toString(), want);
        }
    }

    private static void lists() {
        int[] noList = {LEAST, -1, 4, MOST};
        for (int l : noList) {
            refused(10, "go " + l, 0, x -> number(x.go(l)));
            refused(11, "play " + l, 0, x -> number(x.play(l, 1, 0)));
        }
        refused(10, "go of a list without cues", 0, x -> number(x.go(3)));
        refused(10, "go at the last cue", 0, x -> number(x.go(2)));
        int[][] noCue = {{0, 0}, {3, 0}, {1, 1}, {1, -1}, {0, 100}, {2, -100}, {1000, 0}, {1, 100}, {LEAST, 0}, {1, MOST}};
        for (int[] name : noCue) {
            refused(11, "play " + name[0] + "." + name[1], 0, x -> number(x.play(0, name[0], name[1])));
        }
        refused(11, "play in a list without cues", 0, x -> number(x.play(3, 1, 0)));
    }

    private static void wire() {
        int[][] none = {{-1, 1, 0}, {128, 1, 0}, {0, -1, 0}, {0, 65, 0}, {0, 50, -1}, {0, 50, 4}, {127, 0, 4}, {LEAST, 1, 0}, {0, MOST, 0}};
        for (int[] p : none) {
            refused(15, "patch " + p[0] + " " + p[1] + " " + p[2], 0, x -> number(x.patch(p[0], p[1], p[2])));
        }
        int[] noGrand = {LEAST, -1, 256, MOST};
        for (int n : noGrand) {
            refused(16, "grand " + n, 0, x -> number(x.grand(n)));
        }
    }

    private static void axes() {
        int[][] none = {{-1, 0, 9, 1, 1}, {8, 0, 9, 1, 1}, {0, -1, 9, 1, 1}, {0, 0, 100000, 1, 1}, {0, 9, 9, 1, 1}, {0, 10, 9, 1, 1},
            {0, 0, 9, 0, 1}, {0, 0, 9, 1000, 1}, {0, 0, 9, 1, 0}, {0, 0, 9, 1, 1000}, {7, 5, 5, 1, 1}, {5, 0, 9, MOST, 1}, {5, LEAST, 9, 1, 1}};
        for (int[] a : none) {
            refused(18, "axis " + a[0] + " " + a[1] + " " + a[2] + " " + a[3] + " " + a[4], 0,
                    x -> number(x.axis(a[0], a[1], a[2], a[3], a[4])));
        }
        int[] noAxis = {LEAST, -1, 8, MOST};
        for (int n : noAxis) {
            refused(19, "to of axis " + n, 0, x -> number(x.to(n, 50)));
            refused(21, "faults of axis " + n, 0, x -> number(x.faults(n, 0)));
        }
        for (int n = 5; n < 8; n++) {
            int axis = n;
            refused(21, "faults of absent axis " + n, 0, x -> number(x.faults(axis, 1)));
        }
        int[] noFaults = {LEAST, -1, 8, MOST};
        for (int which : noFaults) {
            refused(21, "faults " + which, 0, x -> number(x.faults(1, which)));
        }
        int[] noEvent = {LEAST, -1, 16, MOST};
        for (int n : noEvent) {
            refused(23, "event " + n, 0, x -> number(x.event(n, true)));
            refused(23, "event " + n + " not", 0, x -> number(x.event(n, false)));
        }
    }

    private static void ticks() {
        int[] none = {LEAST, -1, 501, MOST};
        for (int n : none) {
            refused(24, "tick " + n, -1, x -> x.tick(n));
        }
        refused(24, "tick 0", 10, x -> x.tick(0));
    }

    private static void hall() {
        int[][] noSection = {{-1, 5}, {8, 5}, {0, -1}, {0, 100000}, {7, MOST}, {LEAST, 5}};
        for (int[] s : noSection) {
            refused(25, "section " + s[0] + " " + s[1], 0, x -> number(x.section(s[0], s[1])));
        }
        int[][] noRow = {{-1, 0, 5}, {40, 0, 5}, {2, -1, 5}, {2, 8, 5}, {2, 0, 0}, {2, 0, 31}, {0, 0, 20}, {0, 7, 30}, {39, 7, 30}, {39, 0, 1}, {2, 0, LEAST}};
        for (int[] r : noRow) {
            refused(26, "row " + r[0] + " " + r[1] + " " + r[2], 0, x -> number(x.row(r[0], r[1], r[2])));
        }
        int[] noDesk = {LEAST, -1, 4, MOST};
        for (int desk : noDesk) {
            refused(27, "line " + desk, 0, x -> number(x.line(desk, false)));
            refused(27, "line " + desk + " up", 0, x -> number(x.line(desk, true)));
        }
    }

    private static void asks() {
        int[][] none = {{-1, 0, 1, 0, 0, 99}, {4, 0, 1, 0, 0, 99}, {0, -1, 1, 0, 0, 99}, {0, 8, 1, 0, 0, 99}, {0, 0, 0, 0, 0, 99},
            {0, 0, 11, 0, 0, 99}, {0, 0, 1, -1, 0, 99}, {0, 0, 1, 4, 0, 99}, {0, 0, 1, 0, -1, 99}, {0, 0, 1, 0, 7, 99}, {0, 0, 1, 0, 0, 10},
            {0, 0, 1, 0, 0, LEAST}, {0, 3, 1, 0, 0, 99}, {2, 0, 2, 0, 0, 99}, {0, 0, 10, 0, 0, 99}};
        for (int[] a : none) {
            refused(28, "ask " + java.util.Arrays.toString(a), -1, x -> x.ask(a[0], a[1], a[2], a[3], a[4], a[5]));
        }
        Check.promise(28);
        StageHouse full = new StageHouse();
        full.row(0, 0, 30);
        full.row(1, 0, 30);
        full.row(2, 0, 3);
        for (int h = 0; h < 60; h++) {
            full.ask(0, 0, 1, 0, 0, 9);
        }
        String before = seatsOf(full);
        Check.due("refused with 60 holds", full.ask(0, 0, 1, 0, 0, 9), -1);
        Check.same("seats behind it", seatsOf(full), before);
        Check.due("holds behind it", full.told(3), 60);
        int[] noHold = {LEAST, -1, 2, 4, 59, 60, MOST};
        for (int h : noHold) {
            refused(31, "give " + h, 0, x -> number(x.give(h)));
            refused(30, "pay " + h, -1, x -> x.pay(h, 37));
        }
    }

    private static String seatsOf(StageHouse x) {
        StringBuilder all = new StringBuilder();
        for (int r = 0; r < 3; r++) {
            for (int k = 0; k < 30; k++) {
                all.append(x.seat(r, k)).append(' ');
            }
        }
        return all.toString();
    }

    private static void tickets() {
        StageHouse y = house();
        int price = y.hold(3, 3);
        int[] amounts = {price - 1, price + 1, -price, 0, LEAST, MOST};
        for (int amount : amounts) {
            refused(30, "pay of " + amount, -1, x -> x.pay(3, amount));
        }
        int[] noTicket = {LEAST, -1, 1, 2, 3, 299, 300, MOST};
        for (int t : noTicket) {
            refused(32, "back of " + t, -1, x -> x.back(0, t));
            refused(33, "enter of " + t, -1, x -> x.enter(t));
        }
        int[] noDesk = {LEAST, -1, 2, 4, MOST};
        for (int desk : noDesk) {
            refused(32, "back at " + desk, -1, x -> x.back(desk, 0));
        }
    }

    /** Those that only tell change nothing, refused or not. */
    private static void tellers() {
        for (int odd : ODD) {
            refused(9, "tracks", -1, x -> x.tracks(odd, 1, 0, 1));
            refused(9, "tracks of a channel", -1, x -> x.tracks(0, 1, 0, odd));
            refused(12, "of", -1, x -> x.of(odd, 0));
            refused(12, "of what", -1, x -> x.of(0, odd));
            refused(13, "level", -1, x -> x.level(0, odd));
            refused(14, "out", -1, x -> x.out(odd));
            refused(17, "wire", -1, x -> x.wire(odd));
            refused(20, "axisAt", -1, x -> x.axisAt(odd, 0));
            refused(20, "axisAt what", -1, x -> x.axisAt(0, odd));
            refused(29, "hold", -1, x -> x.hold(odd, 0));
            refused(29, "hold what", -1, x -> x.hold(0, odd));
            refused(34, "seat", -1, x -> x.seat(odd, 0));
            refused(34, "seat in a row", -1, x -> x.seat(0, odd));
            refused(35, "told", -1, x -> x.told(odd));
            refused(36, "share", -1, x -> x.share(odd, 0));
            refused(36, "share what", -1, x -> x.share(0, odd));
        }
        refused(8, "fault", 0, x -> x.fault());
        refused(13, "level that is told", 38, x -> x.level(0, 1) - 12);
        refused(40, "empty", 0, x -> x.empty() > 0 ? 0 : 1);
    }

    private static void ways() {
        int[][] none = {{-1, 11, 1, 1}, {12, 11, 1, 1}, {0, -1, 1, 1}, {0, 12, 1, 1}, {3, 3, 1, 1}, {0, 11, 0, 1}, {0, 11, 51, 1},
            {0, 11, 1, 0}, {0, 11, 1, 21}, {9, 11, 50, 1}};
        for (int[] w : none) {
            refused(37, "way " + java.util.Arrays.toString(w), -1, x -> x.way(w[0], w[1], w[2], w[3]));
        }
        int[][] noCrowd = {{-1, 5}, {11, 5}, {0, -1}, {0, 61}, {9, MOST}, {LEAST, 5}};
        for (int[] c : noCrowd) {
            refused(38, "crowd " + c[0] + " " + c[1], 0, x -> number(x.crowd(c[0], c[1])));
        }
    }

    /** A refused to() of an axis 0 .. 7 changes but how often it was refused, alike for every cause. */
    private static void toCounts() {
        int[][] calls = {{0, 4}, {0, 901}, {0, LEAST}, {1, 901}, {2, 50}, {3, 50}, {4, 1}, {5, 50}, {6, 0}, {7, 900}};
        Check.promise(19);
        for (int[] call : calls) {
            StageHouse x = house();
            int[][] before = axesOf(x);
            Check.no("refused to " + call[0] + " " + call[1], x.to(call[0], call[1]));
            before[call[0]][7]++;
            int[][] behind = axesOf(x);
            for (int n = 0; n < 8; n++) {
                Check.same("axis " + n + " behind to " + call[0] + " " + call[1], java.util.Arrays.toString(behind[n]),
                        java.util.Arrays.toString(before[n]));
            }
        }
    }

    private static int[][] axesOf(StageHouse x) {
        int[][] all = new int[8][8];
        for (int n = 0; n < 8; n++) {
            for (int what = 0; what < 8; what++) {
                all[n][what] = x.axisAt(n, what);
            }
        }
        return all;
    }
}
