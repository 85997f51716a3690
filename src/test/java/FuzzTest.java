import java.util.Random;

/**
 * Any arguments in any state: no call throws, and what is refused changes nothing. These objects hear more calls than
 * the 512 that the document speaks of: that none may throw is a rule of the language, and that one knows no number.
 */
public final class FuzzTest {
    private static final int[] ODD = {Integer.MIN_VALUE, Integer.MAX_VALUE, -1, 0, 1, 2, 3, 4, 5, 7, 8, 11, 12, 15, 16, 20, 29, 30, 31,
        39, 40, 59, 60, 61, 63, 64, 65, 99, 100, 127, 128, 255, 256, 299, 300, 500, 501, 999, 1000, 99999, 100000};
    private static final String[] PARTS = {"cue", "up", "down", "wait", "follow", "block", "link", "channels", "axis", "let", "fire",
        "go", "master", "at", "to", "still", "event", "many", "kind", "day", "section", "of", "taken", "{", "}", "(", ")", ";", ",",
        ".", "-", ":", "@", "/", "|", "&", "!", "<", ">", "+", "%", "0", "1", "2", "7", "64", "255", "1000", "99999", "100000",
        "abcdefghijklm", "?", "\u00ff", "\u0000"};
    private static final String[] SOUND = {
        "cue 1 up 3 follow 2 { channels 1-64 at 200; axis 0 to 50; fire 1; } cue 2 down 4 wait 1 link 1 { go 1 1; let 0; master 0 at 9; }",
        "cue 1 { channels 60 at 9; go 0 1; } cue 1.5 block follow 1 { axis 1 to 10; }",
        "event 1 & (axis 0 < 100 | !still 0)", "!(event 2 | axis 1 > 5)", "many 2: % 50; kind 1, day 2: - 3; section 0: @ 9;",
        "0: 50 % of taken + 10 % of 1; 1: 40 % of 0 + 7; 2: 100 % of 2;"};

    private final Random random;
    private StageHouse x = new StageHouse();

    private FuzzTest(int seed) {
        random = new Random(seed);
    }

    public static void main(String[] args) {
        for (int seed = 0; seed < 300; seed++) {
            FuzzTest test = new FuzzTest(seed);
            for (int i = 0; i < 512; i++) {
                test.call();
            }
        }
        for (int seed = 0; seed < 40; seed++) {
            FuzzTest test = new FuzzTest(1000 + seed);
            for (int i = 0; i < 300; i++) {
                test.refusedCall();
            }
        }
        Check.end();
    }

    private int odd() {
        return random.nextInt(3) == 0 ? ODD[random.nextInt(ODD.length)] : random.nextInt(12);
    }

    private void anyText() {
        StringBuilder text = new StringBuilder();
        String base = SOUND[random.nextInt(SOUND.length)];
        int at = random.nextInt(base.length());
        int kind = random.nextInt(4);
        if (kind == 0) {
            for (int i = random.nextInt(90); i > 0; i--) {
                text.append(PARTS[random.nextInt(PARTS.length)]).append(random.nextInt(3) == 0 ? "" : " ");
            }
        } else if (kind == 1) {
            text.append(base, 0, at).append(PARTS[random.nextInt(PARTS.length)]).append(base.substring(at));
        } else {
            text.append(base);
        }
        Check.text(x, text.toString());
    }

    private void call() {
        int kind = random.nextInt(44);
        if (kind < 4) {
            anyText();
            int length = x.cut(0);
            x.feed(odd(), odd(), odd(), odd(), odd());
            x.cut(0);
            anyText();
            due(kind == 0 ? x.list(odd()) : kind == 1 ? x.lock(odd()) : kind == 2 ? x.rules() : x.shares(), length);
            return;
        }
        other(kind);
    }

    private static void due(int answer, int length) {
        Check.due("an answer of a text", answer >= -1 || answer <= -10 && length >= 0 ? 1 : 0, 1);
    }

    private long other(int kind) {
        switch (kind) {
            case 4: return x.feed(odd(), odd(), odd(), odd(), odd());
            case 5: return x.cut(odd());
            case 6: return x.fault();
            case 7: return x.tracks(odd(), odd(), odd(), odd());
            case 8: return x.go(odd()) ? 1 : -1;
            case 9: return x.play(odd(), odd(), odd()) ? 1 : -1;
            case 10: return x.of(odd(), odd());
            case 11: return x.level(odd(), odd());
            case 12: return x.out(odd());
            case 13: return x.patch(odd(), odd(), odd()) ? 1 : -1;
            case 14: return x.grand(odd()) ? 1 : -1;
            case 15: return x.wire(odd());
            case 16: return x.axis(odd(), odd(), odd(), odd(), odd()) ? 1 : -1;
            case 17: return x.to(odd(), odd()) ? 1 : -2;
            case 18: return x.axisAt(odd(), odd());
            case 19: return x.faults(odd(), odd()) ? 1 : -1;
            case 20: x.stop(random.nextInt(4) == 0); return 1;
            case 21: return x.event(odd(), random.nextBoolean()) ? 1 : -1;
            case 22: case 23: case 24: return x.tick(odd());
            case 25: return x.section(odd(), odd()) ? 1 : -1;
            case 26: case 27: return x.row(odd(), odd(), odd()) ? 1 : -1;
            case 28: return x.line(odd(), random.nextInt(3) > 0) ? 1 : -1;
            case 29: case 30: return x.ask(odd(), odd(), odd(), odd(), odd(), odd());
            case 31: return x.hold(odd(), odd());
            case 32: int h = odd(); return x.pay(h, random.nextInt(3) > 0 ? x.hold(h, 3) : odd());
            case 33: return x.give(odd()) ? 1 : -1;
            case 34: return x.back(odd(), odd());
            case 35: return x.enter(odd());
            case 36: return x.seat(odd(), odd());
            case 37: return x.told(odd());
            case 38: return Math.max(-1, x.share(odd(), odd()));
            case 39: case 40: return x.way(odd(), odd(), odd(), odd());
            case 41: return x.crowd(odd(), odd()) ? 1 : -1;
            case 42: if (random.nextInt(5) == 0) { x.clearWays(); } return 1;
            default: return x.empty();
        }
    }

    /** A call that answers NONE or false leaves all that can be asked for as it was; to() counts what it refuses. */
    private void refusedCall() {
        if (random.nextInt(6) == 0) {
            call();
            return;
        }
        String before = state();
        int kind = 4 + random.nextInt(40);
        long answer = other(kind);
        if (answer == -1) {
            Check.due("state behind a refused call of kind " + kind, before.equals(state()) ? 1 : 0, 1);
        }
    }

    private String state() {
        StringBuilder all = new StringBuilder();
        for (int l = 0; l < 4; l++) {
            for (int what = 0; what < 6; what++) {
                all.append(x.of(l, what)).append(' ');
            }
            for (int c = 1; c <= 64; c++) {
                all.append(x.level(l, c)).append(' ');
                all.append(x.tracks(l, 1, 0, c)).append(' ');
            }
        }
        for (int b = 0; b < 128; b++) {
            all.append(x.wire(b)).append(' ');
        }
        for (int n = 0; n < 8; n++) {
            for (int what = 0; what < 8; what++) {
                all.append(x.axisAt(n, what)).append(' ');
            }
        }
        for (int r = 0; r < 40; r++) {
            for (int k = 0; k < 30; k++) {
                all.append(x.seat(r, k));
            }
        }
        for (int h = 0; h < 60; h++) {
            for (int what = 0; what < 5; what++) {
                all.append(x.hold(h, what)).append(' ');
            }
        }
        for (int what = 0; what < 8; what++) {
            all.append(x.told(what)).append(' ');
            all.append(x.share(what, 0)).append(' ').append(x.share(what, 1)).append(' ');
        }
        return all.append(x.empty()).append(' ').append(x.fault()).toString();
    }
}
