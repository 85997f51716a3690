import java.math.BigDecimal;
import java.math.RoundingMode;
import java.util.ArrayList;
import java.util.List;
import java.util.Random;

/** Random evenings at the desks against a plain box office (promises 6 and 24 to 35). */
public final class BoxOracleTest {
    private static final class Hold {
        int row;
        int first;
        int many;
        int kind;
        int day;
        int till;
    }

    private static final class Ticket {
        int row;
        int first;
        int many;
        int paid;
        boolean entered;
        boolean returned;
    }

    private final Random random;
    private final StageHouse x = new StageHouse();
    private final int[] prices = new int[8];
    private final int[][] rows = new int[40][];
    private final int[] sections = new int[40];
    private final boolean[] cut = new boolean[4];
    private final Hold[] holds = new Hold[60];
    private final List<Ticket> tickets = new ArrayList<>();
    private List<int[]> rules = new ArrayList<>();
    private int now;

    private BoxOracleTest(int seed) {
        random = new Random(seed);
    }

    public static void main(String[] args) {
        for (int seed = 0; seed < 10000; seed++) {
            new BoxOracleTest(seed).run();
        }
        Check.end();
    }

    private void run() {
        for (int i = 0; i < 5; i++) {
            section();
            row();
        }
        for (int turn = 0; turn < 80; turn++) {
            turn();
            for (int i = 0; i < 4; i++) {
                compare(any(3));
            }
        }
    }

    private int any(int bound) {
        return random.nextInt(bound);
    }

    /** Now and then one below or above what there is. */
    private int near(int low, int high) {
        return any(25) == 0 ? (random.nextBoolean() ? low - 1 : high + 1) : low + any(high - low + 1);
    }

    private static boolean in(int n, int low, int high) {
        return n >= low && n <= high;
    }

    private static void same(String what, boolean got, boolean want) {
        Check.due(what, got ? 1 : 0, want ? 1 : 0);
    }

    private void turn() {
        int kind = any(20);
        if (kind == 0) {
            section();
        } else if (kind == 1) {
            row();
        } else if (kind == 2) {
            line();
        } else if (kind == 3) {
            tellRules();
        } else if (kind < 6) {
            tick();
        } else if (kind < 12) {
            ask();
        } else if (kind < 16) {
            pay();
        } else if (kind == 16) {
            give();
        } else if (kind == 17) {
            enter();
        } else {
            back();
        }
    }

    private void section() {
        int s = any(3) == 0 ? near(0, 7) : any(2);
        int price = any(4) == 0 ? near(0, 99999) : any(300);
        boolean such = in(s, 0, 7) && in(price, 0, 99999);
        same("section", x.section(s, price), such);
        if (such) {
            prices[s] = price;
        }
    }

    private void row() {
        int r = any(3) == 0 ? near(0, 39) : any(6);
        int s = any(3) == 0 ? near(0, 7) : any(2);
        int seats = near(1, any(2) == 0 ? 30 : 12);
        boolean such = in(r, 0, 39) && in(s, 0, 7) && in(seats, 1, 30);
        for (int k = 0; such && rows[r] != null && k < rows[r].length; k++) {
            such = rows[r][k] == 0;
        }
        same("row", x.row(r, s, seats), such);
        if (such) {
            rows[r] = new int[seats];
            sections[r] = s;
        }
    }

    private void line() {
        int desk = near(0, 3);
        boolean up = any(3) > 0;
        same("line", x.line(desk, up), in(desk, 0, 3));
        if (in(desk, 0, 3)) {
            cut[desk] = !up;
        }
    }

    /** A rule is kept as its conditions in pairs, then the sign and the number. */
    private void tellRules() {
        List<int[]> told = new ArrayList<>();
        StringBuilder text = new StringBuilder();
        int count = any(9) == 0 ? near(0, 20) : any(5);
        for (int i = 0; i < count; i++) {
            int more = 1 + any(3);
            int[] rule = new int[2 * more + 2];
            for (int c = 0; c < more; c++) {
                int which = any(4);
                int n = which == 0 ? 1 + any(5) : which == 1 ? any(4) : which == 2 ? any(7) : any(2);
                rule[2 * c] = which;
                rule[2 * c + 1] = n;
                text.append(new String[] {"many ", "kind ", "day ", "section "}[which]).append(n).append(c + 1 < more ? "," : ":");
            }
            int sign = "%-+@".charAt(any(4));
            int by = sign == '%' ? any(201) : any(3) == 0 ? any(100000) : any(200);
            rule[2 * more] = sign;
            rule[2 * more + 1] = by;
            text.append((char) sign).append(by).append("; ");
            told.add(rule);
        }
        int got = Check.rules(x, text.toString());
        if (count > 20) {
            Check.yes("too many rules", got <= -10 && x.fault() == 2);
        } else {
            Check.due(text.toString(), got, Math.max(0, count));
            rules = told;
        }
    }

    private int price(Hold hold) {
        BigDecimal most = BigDecimal.valueOf(1000000);
        BigDecimal price = BigDecimal.valueOf((long) hold.many * prices[sections[hold.row]]).min(most);
        for (int[] rule : rules) {
            boolean all = true;
            for (int c = 0; c + 2 < rule.length; c += 2) {
                int n = rule[c + 1];
                int have = rule[c] == 1 ? hold.kind : rule[c] == 2 ? hold.day : sections[hold.row];
                all &= rule[c] == 0 ? hold.many >= n : have == n;
            }
            if (all) {
                price = changed(price, rule[rule.length - 2], rule[rule.length - 1], hold.many).min(most);
            }
        }
        return price.intValueExact();
    }

    private static BigDecimal changed(BigDecimal price, int sign, int by, int many) {
        BigDecimal n = BigDecimal.valueOf(by);
        switch (sign) {
            case '%':
                return price.multiply(n).divide(BigDecimal.valueOf(100), 0, RoundingMode.HALF_UP);
            case '-':
                return price.subtract(n).max(BigDecimal.ZERO);
            case '+':
                return price.add(n);
            default:
                return n.multiply(BigDecimal.valueOf(many));
        }
    }

    private void tick() {
        int many = any(20) == 0 ? near(0, 500) : any(6);
        boolean such = in(many, 0, 500);
        Check.due("tick", x.tick(many), such ? now + many : -1);
        for (int i = 0; such && i < many; i++) {
            now++;
            for (int h = 0; h < 60; h++) {
                if (holds[h] != null && now >= holds[h].till) {
                    mark(holds[h].row, holds[h].first, holds[h].many, 0);
                    holds[h] = null;
                }
            }
        }
    }

    private void mark(int r, int first, int many, int state) {
        for (int k = first; k < first + many; k++) {
            rows[r][k] = state;
        }
    }

    private void ask() {
        int desk = near(0, 3);
        int s = any(4) == 0 ? near(0, 7) : any(2);
        int n = any(3) == 0 ? near(1, 10) : 1 + any(3);
        int kind = near(0, 3);
        int day = near(0, 6);
        int till = now + (any(6) == 0 ? any(3) - 1 : any(60));
        int h = 0;
        while (h < 60 && holds[h] != null) {
            h++;
        }
        boolean such = in(desk, 0, 3) && in(s, 0, 7) && in(n, 1, 10) && in(kind, 0, 3) && in(day, 0, 6) && till > now && h < 60;
        int[] best = such ? OracleTest.best(rows, sections, cut, desk, s, n) : null;
        Check.due("ask", x.ask(desk, s, n, kind, day, till), best == null ? -1 : h);
        if (best != null) {
            Hold hold = new Hold();
            hold.row = best[2];
            hold.first = best[3];
            hold.many = n;
            hold.kind = kind;
            hold.day = day;
            hold.till = till;
            holds[h] = hold;
            mark(hold.row, hold.first, n, 1);
        }
    }

    private int anyHold() {
        return any(5) == 0 ? near(0, 59) : any(6);
    }

    private Hold at(int h) {
        return in(h, 0, 59) ? holds[h] : null;
    }

    private void pay() {
        int h = anyHold();
        Hold hold = at(h);
        int amount = (hold == null ? any(10) : price(hold)) + (any(6) == 0 ? any(3) - 1 : 0);
        boolean such = hold != null && amount == price(hold);
        Check.due("pay", x.pay(h, amount), such ? tickets.size() : -1);
        if (such) {
            Ticket ticket = new Ticket();
            ticket.row = hold.row;
            ticket.first = hold.first;
            ticket.many = hold.many;
            ticket.paid = amount;
            tickets.add(ticket);
            mark(hold.row, hold.first, hold.many, 2);
            holds[h] = null;
        }
    }

    private void give() {
        int h = anyHold();
        Hold hold = at(h);
        same("give", x.give(h), hold != null);
        if (hold != null) {
            mark(hold.row, hold.first, hold.many, 0);
            holds[h] = null;
        }
    }

    private Ticket ticketAt(int t) {
        return in(t, 0, tickets.size() - 1) ? tickets.get(t) : null;
    }

    private void enter() {
        int t = near(0, Math.max(0, tickets.size() - 1));
        Ticket ticket = ticketAt(t);
        boolean such = ticket != null && !ticket.entered && !ticket.returned;
        Check.due("enter", x.enter(t), such ? ticket.many : -1);
        if (such) {
            ticket.entered = true;
        }
    }

    private void back() {
        int t = near(0, Math.max(0, tickets.size() - 1));
        int desk = near(0, 3);
        Ticket ticket = ticketAt(t);
        boolean such = ticket != null && !ticket.entered && !ticket.returned && in(desk, 0, 3) && !cut[desk];
        Check.due("back", x.back(desk, t), such ? ticket.paid : -1);
        if (such) {
            ticket.returned = true;
            mark(ticket.row, ticket.first, ticket.many, 0);
        }
    }

    /** One thing at random: all of them at every turn would soon be more calls than an object serves. */
    private void compare(int kind) {
        if (kind == 0) {
            compareHold(anyHold(), near(0, 4));
        } else if (kind == 1) {
            int r = any(3) == 0 ? near(0, 39) : any(6);
            int k = near(0, 29);
            boolean there = in(r, 0, 39) && rows[r] != null && k >= 0 && k < rows[r].length;
            Check.due("seat " + k + " of " + r, x.seat(r, k), there ? rows[r][k] : -1);
        } else {
            compareTold(any(6));
        }
    }

    private void compareHold(int h, int what) {
        Hold hold = at(h);
        int want = -1;
        if (hold != null && in(what, 0, 4)) {
            want = new int[] {hold.row, hold.first, hold.many, price(hold), hold.till}[what];
        }
        Check.due("hold " + h + ", " + what, x.hold(h, what), want);
    }

    private void compareTold(int what) {
        int[] sums = new int[6];
        for (Ticket ticket : tickets) {
            sums[0] += ticket.returned ? 0 : ticket.paid;
            sums[1] += ticket.returned ? 0 : 1;
            sums[4] += ticket.entered ? ticket.many : 0;
        }
        for (int[] row : rows) {
            for (int k = 0; row != null && k < row.length; k++) {
                sums[2] += row[k] == 2 ? 1 : 0;
            }
        }
        for (Hold hold : holds) {
            sums[3] += hold == null ? 0 : 1;
        }
        sums[5] = now;
        Check.due("told " + what, x.told(what), sums[what]);
    }
}
