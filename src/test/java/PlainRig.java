import java.util.Random;
import java.util.function.BooleanSupplier;

/** Axes, events and the stop, stepped by the document's words without any short cut. */
final class PlainRig {
    static final class Axis {
        boolean there;
        int low;
        int high;
        int speed;
        int acc;
        int place;
        int pace;
        int target = -1;
        int seen;
        int seenBefore;
        int faults;
        int refused;
        BooleanSupplier lock = () -> true;
    }

    final Axis[] axes = new Axis[8];
    final boolean[] events = new boolean[16];
    boolean stopped;

    PlainRig() {
        for (int n = 0; n < 8; n++) {
            axes[n] = new Axis();
        }
    }

    boolean axis(int n, int low, int high, int speed, int acc) {
        if (n < 0 || n > 7 || low < 0 || high > 99999 || low >= high || speed < 1 || speed > 999 || acc < 1 || acc > 999) {
            return false;
        }
        Axis old = axes[n];
        Axis axis = new Axis();
        axis.lock = old.lock;
        axis.refused = old.refused;
        axis.there = true;
        axis.low = low;
        axis.high = high;
        axis.speed = speed;
        axis.acc = acc;
        axis.place = low;
        axis.seen = low;
        axis.seenBefore = low;
        axes[n] = axis;
        return true;
    }

    boolean to(int n, int p) {
        if (n < 0 || n > 7) {
            return false;
        }
        Axis axis = axes[n];
        if (!axis.there || p < axis.low || p > axis.high || axis.faults % 2 == 1 || stopped || !axis.lock.getAsBoolean()) {
            axis.refused++;
            return false;
        }
        axis.target = p;
        return true;
    }

    void let(int n) {
        axes[n].target = -1;
    }

    boolean faults(int n, int which) {
        if (n < 0 || n > 7 || which < 0 || which > 7 || !axes[n].there) {
            return false;
        }
        axes[n].faults = which;
        if (which % 2 == 1) {
            axes[n].target = -1;
        }
        return true;
    }

    void stop(boolean on) {
        stopped = on;
        for (Axis axis : axes) {
            axis.target = on ? -1 : axis.target;
        }
    }

    boolean event(int n, boolean is) {
        if (n < 0 || n > 15) {
            return false;
        }
        events[n] = is;
        return true;
    }

    /** The locks are all asked ahead of any moving, by what was seen before. */
    void step() {
        for (Axis axis : axes) {
            if (axis.target >= 0 && !axis.lock.getAsBoolean()) {
                axis.target = -1;
            }
        }
        for (Axis axis : axes) {
            if (axis.there) {
                axis.pace = axis.target < 0 ? slowed(axis.pace, axis.acc) : aimed(axis);
                axis.place += axis.pace;
                if (axis.place == axis.target && axis.pace == 0) {
                    axis.target = -1;
                }
            }
        }
        for (Axis axis : axes) {
            axis.seenBefore = axis.seen;
            axis.seen = axis.faults / 2 % 2 == 1 ? axis.seen : axis.place;
        }
    }

    private static int slowed(int pace, int acc) {
        return Integer.signum(pace) * Math.max(0, Math.abs(pace) - acc);
    }

    private static int aimed(Axis axis) {
        int sign = axis.target >= axis.place ? 1 : -1;
        int d = Math.abs(axis.target - axis.place);
        int w = axis.pace * sign;
        if (w < 0) {
            return Math.min(0, w + axis.acc) * sign;
        }
        int top = axis.faults / 4 == 1 ? Math.max(1, axis.speed / 2) : axis.speed;
        for (int x = w + axis.acc; x >= 0 && x >= w - axis.acc; x--) {
            if (x <= top && x + brake(x, axis.acc) <= d) {
                return x * sign;
            }
        }
        return Math.max(0, w - axis.acc) * sign;
    }

    private static int brake(int w, int acc) {
        int sum = 0;
        for (int v = w - acc; v > 0; v -= acc) {
            sum += v;
        }
        return sum;
    }

    int axisAt(int n, int what) {
        if (n < 0 || n > 7 || what < 0 || what > 7) {
            return -1;
        }
        Axis axis = axes[n];
        if (what == 0) {
            return axis.there ? 1 : 0;
        }
        if (what == 6) {
            return axis.lock.getAsBoolean() ? 1 : 0;
        }
        if (what == 7) {
            return axis.refused;
        }
        return axis.there ? new int[] {0, axis.place, axis.pace, axis.target, axis.seen, axis.faults}[what] : -1;
    }

    int refused() {
        int sum = 0;
        for (Axis axis : axes) {
            sum += axis.refused;
        }
        return sum;
    }

    /** Asks for some things at random: all of them at every turn would soon be more calls than an object serves. */
    void compare(String when, StageHouse x, Random random) {
        for (int i = 0; i < 3; i++) {
            int n = random.nextInt(20) == 0 ? -1 + 9 * random.nextInt(2) : random.nextInt(8);
            int what = random.nextInt(10) - 1;
            Check.due(when + ": axisAt(" + n + ", " + what + ")", x.axisAt(n, what), axisAt(n, what));
        }
        if (random.nextBoolean()) {
            Check.due(when + ": refused", x.told(6), refused());
        } else {
            Check.due(when + ": stop", x.told(7), stopped ? 1 : 0);
        }
    }
}
