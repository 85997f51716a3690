import java.util.Random;
import java.util.function.BooleanSupplier;

/** Random nights of eight axes whose locks look at one another, against the plain rig (promises 5, 18 to 24, 35). */
public final class RigOracleTest {
    private final Random random;
    private final PlainRig rig = new PlainRig();
    private final StageHouse x = new StageHouse();
    private final StringBuilder text = new StringBuilder();
    private int tokens;

    private RigOracleTest(int seed) {
        random = new Random(seed);
    }

    public static void main(String[] args) {
        for (int seed = 0; seed < 20000; seed++) {
            new RigOracleTest(seed).run();
        }
        Check.end();
    }

    private void run() {
        boolean small = random.nextBoolean();
        for (int n = 0; n < 8; n++) {
            if (random.nextInt(4) > 0) {
                place(n, small);
            }
        }
        for (int turn = 0; turn < 50; turn++) {
            String call = call(small);
            rig.compare(call, x, random);
        }
    }

    private int any(int bound) {
        return random.nextInt(bound);
    }

    private int near(int low, int high) {
        return low - 1 + any(high - low + 3);
    }

    private String call(boolean small) {
        int kind = any(24);
        int n = any(20) == 0 ? near(0, 7) : any(8);
        if (kind == 0) {
            place(n, small);
            return "axis";
        }
        if (kind == 1) {
            int which = near(0, 7);
            same("faults", x.faults(n, which), rig.faults(n, which));
            return "faults";
        }
        if (kind < 4) {
            boolean on = kind == 2 && any(3) == 0;
            x.stop(on);
            rig.stop(on);
            return "stop";
        }
        if (kind < 7) {
            int e = near(0, 15);
            boolean is = random.nextBoolean();
            same("event", x.event(e, is), rig.event(e, is));
            return "event";
        }
        if (kind < 9) {
            lock(n);
            return "lock " + text;
        }
        if (kind < 15) {
            int p = n >= 0 && n < 8 && rig.axes[n].there ? near(rig.axes[n].low, rig.axes[n].high) : any(100);
            same("to", x.to(n, p), rig.to(n, p));
            return "to";
        }
        return ticks(any(5) == 0 ? any(40) : any(3));
    }

    private String ticks(int many) {
        int before = x.told(5);
        Check.due("tick", x.tick(many), before + many);
        for (int i = 0; i < many; i++) {
            rig.step();
        }
        return "tick " + many;
    }

    private static void same(String what, boolean got, boolean want) {
        Check.due(what, got ? 1 : 0, want ? 1 : 0);
    }

    private void place(int n, boolean small) {
        int low = any(small ? 20 : 40000);
        int high = low + any(small ? 60 : 40000);
        int speed = near(1, small ? 12 : 999);
        int acc = near(1, small || random.nextBoolean() ? 12 : 999);
        same("axis", x.axis(n, low, high, speed, acc), rig.axis(n, low, high, speed, acc));
    }

    private void lock(int n) {
        BooleanSupplier value = null;
        do {
            text.setLength(0);
            tokens = 0;
            value = or(0);
        } while (tokens > 60);
        int got = Check.lock(x, n, text.toString());
        Check.due("lock " + text, got, n < 0 || n > 7 ? -1 : 0);
        if (n >= 0 && n < 8) {
            rig.axes[n].lock = value;
        }
    }

    private void add(String token) {
        text.append(token).append(' ');
        tokens++;
    }

    private BooleanSupplier or(int depth) {
        BooleanSupplier left = and(depth);
        if (any(3) > 0 || tokens > 60) {
            return left;
        }
        add("|");
        BooleanSupplier right = or(depth);
        return () -> left.getAsBoolean() | right.getAsBoolean();
    }

    private BooleanSupplier and(int depth) {
        BooleanSupplier left = not(depth);
        if (any(3) > 0 || tokens > 60) {
            return left;
        }
        add("&");
        BooleanSupplier right = and(depth);
        return () -> left.getAsBoolean() & right.getAsBoolean();
    }

    private BooleanSupplier not(int depth) {
        int kind = any(depth < 12 ? 10 : 7);
        if (kind == 9) {
            add("!");
            BooleanSupplier inner = not(depth + 1);
            return () -> !inner.getAsBoolean();
        }
        if (kind > 6) {
            add("(");
            BooleanSupplier inner = or(depth + 1);
            add(")");
            return inner;
        }
        int n = any(8);
        if (kind < 2) {
            int e = any(16);
            add("event");
            add("" + e);
            return () -> rig.events[e];
        }
        if (kind < 4) {
            add("still");
            add("" + n);
            return () -> !rig.axes[n].there || rig.axes[n].seen == rig.axes[n].seenBefore;
        }
        boolean below = random.nextBoolean();
        int bound = rig.axes[n].there ? Math.max(0, rig.axes[n].place - 20 + any(40)) : any(50);
        add("axis");
        add("" + n);
        add(below ? "<" : ">");
        add("" + bound);
        return () -> rig.axes[n].there && (below ? rig.axes[n].seen < bound : rig.axes[n].seen > bound);
    }
}
