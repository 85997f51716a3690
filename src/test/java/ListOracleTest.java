import java.util.ArrayList;
import java.util.List;
import java.util.Random;

/** Random lists that move axes too, played against a plain model that steps every channel at every tick. */
public final class ListOracleTest {
    private static final class Cue {
        int name;
        int up;
        int down;
        int wait;
        int follow;
        int link;
        int[] tracks = new int[65];
        List<int[]> acts = new ArrayList<>();
    }

    private static final class Player {
        List<Cue> cues = new ArrayList<>();
        int own = -1;
        int begins = -1;
        int goes = -1;
        int master = 255;
        int[] target = new int[65];
        int[] level = new int[65];
        int[] start = new int[65];
        int[] gone = new int[65];
        int[] span = new int[65];
    }

    private Player[] lists = new Player[4];
    private final int[] last = new int[65];
    private final PlainRig rig = new PlainRig();
    private final int[] patched = new int[128];
    private final int[] curves = new int[128];
    private int grand = 255;
    private final StageHouse x = new StageHouse();
    private final Random random;

    private ListOracleTest(int seed) {
        random = new Random(seed);
        java.util.Arrays.fill(last, -1);
        for (int l = 0; l < 4; l++) {
            lists[l] = new Player();
        }
        for (int n = 0; n < 8; n++) {
            int own = n;
            rig.axes[n].lock = () -> rig.events[own];
            Check.lock(x, n, "event " + n);
        }
        for (int b = 0; b < 128; b += 1 + random.nextInt(8)) {
            patched[b] = 1 + random.nextInt(64);
            curves[b] = random.nextInt(4);
            x.patch(b, patched[b], curves[b]);
        }
        for (int n = 0; n < 6; n++) {
            int acc = 1 + random.nextInt(5);
            x.axis(n, 10, 60, 4 + n, acc);
            rig.axis(n, 10, 60, 4 + n, acc);
        }
    }

    public static void main(String[] args) {
        for (int seed = 0; seed < 10000; seed++) {
            new ListOracleTest(seed).run();
        }
        Check.end();
    }

    private void run() {
        for (int l = 0; l < 4; l++) {
            tellList(l);
        }
        for (int turn = 0; turn < 40; turn++) {
            int l = random.nextInt(4);
            int kind = random.nextInt(40);
            if (kind == 0) {
                tellList(l);
            } else if (kind < 4) {
                Check.due("go", x.go(l) ? 1 : 0, goes(l) ? 1 : 0);
            } else if (kind < 6) {
                int n = 1 + random.nextInt(4);
                int m = random.nextInt(3);
                int c = find(l, 100 * n + m);
                Check.due("play", x.play(l, n, m) ? 1 : 0, c >= 0 ? 1 : 0);
                if (c >= 0) {
                    plays(l, c, lists[l].cues.get(c).wait);
                }
            } else if (kind < 8) {
                change();
            } else {
                x.tick(1);
                step();
                rig.step();
            }
            for (int i = 0; i < 3; i++) {
                compare(random.nextInt(5));
            }
        }
    }

    private void change() {
        int n = random.nextInt(8);
        int kind = random.nextInt(6);
        if (kind == 0) {
            grand = random.nextInt(256);
            x.grand(grand);
        } else if (kind < 3) {
            int b = random.nextInt(128);
            patched[b] = random.nextInt(65);
            curves[b] = random.nextInt(4);
            x.patch(b, patched[b], curves[b]);
            Check.due("wire " + b, x.wire(b), wire(b));
        } else if (kind == 3) {
            boolean on = random.nextInt(3) == 0;
            x.stop(on);
            rig.stop(on);
        } else {
            boolean is = random.nextBoolean();
            x.event(n, is);
            rig.event(n, is);
        }
    }

    private void tellList(int l) {
        Player player = new Player();
        StringBuilder text = new StringBuilder();
        int name = 100;
        int[] tracks = new int[65];
        int count = random.nextInt(7);
        for (int i = 0; i < count; i++) {
            Cue cue = new Cue();
            name += random.nextBoolean() ? 1 : 100 - name % 100;
            cue.name = name;
            text.append("cue ").append(spell(name));
            tracks = tracks.clone();
            options(cue, text, tracks);
            text.append("{");
            for (int a = random.nextInt(5); a > 0; a--) {
                act(cue, text, tracks);
            }
            text.append("}\n");
            cue.tracks = tracks;
            player.cues.add(cue);
        }
        Check.due(text.toString(), Check.list(x, l, text.toString()), count);
        lists[l] = player;
        for (int c = 1; c <= 64; c++) {
            last[c] = last[c] == l ? -1 : last[c];
        }
        for (Cue cue : player.cues) {
            int c = 1 + random.nextInt(64);
            Check.due("tracks", x.tracks(l, cue.name / 100, cue.name % 100, c), cue.tracks[c]);
        }
    }

    private static String spell(int name) {
        return name % 100 == 0 ? "" + name / 100 : name / 100 + "." + name % 100;
    }

    private int anyName() {
        return 100 * (1 + random.nextInt(4)) + random.nextInt(3);
    }

    private void options(Cue cue, StringBuilder text, int[] tracks) {
        if (random.nextBoolean()) {
            cue.up = random.nextInt(9);
            text.append(" up ").append(cue.up);
        }
        if (random.nextInt(4) == 0) {
            cue.follow = 1 + random.nextInt(6);
            text.append(" follow ").append(cue.follow);
        }
        if (random.nextInt(4) == 0) {
            java.util.Arrays.fill(tracks, 0);
            text.append(" block");
        }
        if (random.nextBoolean()) {
            cue.down = random.nextInt(9);
            text.append(" down ").append(cue.down);
        }
        if (random.nextInt(4) == 0) {
            cue.wait = random.nextInt(5);
            text.append(" wait ").append(cue.wait);
        }
        if (random.nextInt(4) == 0) {
            cue.link = anyName();
            text.append(" link ").append(spell(cue.link));
        }
    }

    private void act(Cue cue, StringBuilder text, int[] tracks) {
        int kind = random.nextInt(9);
        if (kind < 3) {
            int first = 1 + random.nextInt(64);
            int second = Math.min(64, first + random.nextInt(20));
            int third = 1 + random.nextInt(64);
            int level = random.nextInt(256);
            text.append(" channels ").append(third).append(',').append(first).append('-').append(second);
            text.append(" at ").append(level).append(';');
            tracks[third] = level;
            for (int c = first; c <= second; c++) {
                tracks[c] = level;
            }
        } else if (kind < 5) {
            int n = random.nextInt(7);
            int p = 5 + random.nextInt(60);
            text.append(" axis ").append(n).append(" to ").append(p).append(';');
            cue.acts.add(new int[] {1, n, p});
        } else if (kind == 5) {
            int n = random.nextInt(8);
            text.append(" let ").append(n).append(';');
            cue.acts.add(new int[] {2, n, 0});
        } else if (kind == 6) {
            int e = random.nextInt(8);
            text.append(" fire ").append(e).append(';');
            cue.acts.add(new int[] {3, e, 0});
        } else if (kind == 7) {
            int l = random.nextInt(4);
            int name = anyName();
            text.append(" go ").append(l).append(' ').append(spell(name)).append(';');
            cue.acts.add(new int[] {4, l, name});
        } else {
            int l = random.nextInt(4);
            int n = random.nextInt(256);
            text.append(" master ").append(l).append(" at ").append(n).append(';');
            cue.acts.add(new int[] {5, l, n});
        }
    }

    private int find(int l, int name) {
        for (int c = 0; c < lists[l].cues.size(); c++) {
            if (lists[l].cues.get(c).name == name) {
                return c;
            }
        }
        return -1;
    }

    private void plays(int l, int c, int wait) {
        Player player = lists[l];
        player.own = c;
        player.goes = -1;
        player.begins = wait;
        if (wait == 0) {
            begins(l);
        }
    }

    private boolean goes(int l) {
        Player player = lists[l];
        int next = player.own + 1;
        if (player.own >= 0) {
            int linked = find(l, player.cues.get(player.own).link);
            next = linked >= 0 ? linked : next;
        }
        if (next >= player.cues.size()) {
            return false;
        }
        plays(l, next, player.cues.get(next).wait);
        return true;
    }

    private void begins(int l) {
        Player player = lists[l];
        Cue cue = player.cues.get(player.own);
        player.begins = -1;
        player.goes = cue.follow > 0 ? cue.follow : -1;
        for (int c = 1; c <= 64; c++) {
            if (player.target[c] != cue.tracks[c]) {
                player.target[c] = cue.tracks[c];
                player.start[c] = player.level[c];
                player.gone[c] = 0;
                player.span[c] = cue.tracks[c] > player.level[c] ? cue.up : cue.down;
                last[c] = l;
                settle(player, c);
            }
        }
        for (int[] act : cue.acts) {
            if (act[0] == 1) {
                rig.to(act[1], act[2]);
            } else if (act[0] == 2) {
                rig.let(act[1]);
            } else if (act[0] == 3) {
                rig.event(act[1], true);
            } else if (act[0] == 5) {
                lists[act[1]].master = act[2];
            } else {
                int c = find(act[1], act[2]);
                if (c >= 0) {
                    plays(act[1], c, Math.max(1, lists[act[1]].cues.get(c).wait));
                }
            }
        }
    }

    private static void settle(Player player, int c) {
        if (player.gone[c] >= player.span[c]) {
            player.level[c] = player.target[c];
            return;
        }
        double exact = player.start[c] + (double) (player.target[c] - player.start[c]) * player.gone[c] / player.span[c];
        player.level[c] = (int) Math.floor(exact + 0.5 + 1e-9);
    }

    private void step() {
        for (Player player : lists) {
            for (int c = 1; c <= 64; c++) {
                player.gone[c]++;
                settle(player, c);
            }
        }
        // What is armed within this tick starts to count with the next one.
        boolean[] begin = new boolean[4];
        boolean[] go = new boolean[4];
        for (int l = 0; l < 4; l++) {
            Player player = lists[l];
            if (player.begins > 0) {
                player.begins--;
                begin[l] = player.begins == 0;
            }
            if (player.goes > 0) {
                player.goes--;
                go[l] = player.goes == 0;
            }
        }
        for (int l = 0; l < 4; l++) {
            Player player = lists[l];
            if (begin[l] && player.begins == 0) {
                begins(l);
            } else if (go[l] && player.goes == 0) {
                player.goes = -1;
                goes(l);
            }
        }
    }

    private static int part(int a, int b) {
        return (int) Math.floor(a * (double) b / 255 + 0.5);
    }

    /** One thing at random: all of them at every turn would soon be more calls than an object serves. */
    private void compare(int kind) {
        int l = random.nextInt(4);
        int c = 1 + random.nextInt(64);
        if (kind == 0) {
            Check.due("level of " + c, x.level(l, c), lists[l].level[c]);
        } else if (kind == 1) {
            int what = random.nextInt(6);
            Check.due("of " + what, x.of(l, what), of(lists[l], what));
        } else if (kind == 2) {
            Check.due("out " + c, x.out(c), out(c));
        } else if (kind == 3) {
            int b = random.nextInt(128);
            Check.due("wire " + b, x.wire(b), wire(b));
        } else if (random.nextInt(3) == 0) {
            rig.compare("the rig", x, random);
        }
    }

    private static int of(Player player, int what) {
        int moving = 0;
        for (int c = 1; c <= 64; c++) {
            moving += player.level[c] != player.target[c] ? 1 : 0;
        }
        int own = player.own < 0 ? 0 : player.cues.get(player.own).name;
        return new int[] {own, Math.max(0, player.begins), player.goes, player.master, moving, player.cues.size()}[what];
    }

    private int wire(int b) {
        if (patched[b] == 0) {
            return 0;
        }
        int level = out(patched[b]);
        int[] curved = {level, part(level, level), level >= 128 ? 255 : 0, 255 - level};
        return part(curved[curves[b]], grand);
    }

    private int out(int c) {
        if (c > 48) {
            return last[c] < 0 ? 0 : lists[last[c]].level[c];
        }
        int out = 0;
        for (Player player : lists) {
            out = Math.max(out, part(player.level[c], player.master));
        }
        return out;
    }
}
