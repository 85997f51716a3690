import java.util.Arrays;

/** A house for the nights of a stage; the document's promises are numbered at the public methods. */
public final class StageHouse {
    public static final int NONE = -1;

    private final Tape tape;
    private final Rig rig;
    private final Board board;
    private final Hall hall;
    private final Prices prices;
    private final Box box;
    private final Parties parties;
    private final Ways ways;
    private int now;

    /** Promise 1. All rows are made here once, so that no later call makes an object. */
    public StageHouse() {
        tape = new Tape();
        rig = new Rig();
        board = new Board(rig);
        hall = new Hall();
        prices = new Prices();
        box = new Box(hall, prices);
        parties = new Parties();
        ways = new Ways();
        now = 0;
    }

    /** Promise 2. */
    public int feed(int a, int b, int c, int d, int e) {
        if (!tape.hasRoom()) {
            return NONE;
        }
        tape.append(a);
        tape.append(b);
        tape.append(c);
        tape.append(d);
        tape.append(e);
        return tape.length;
    }

    /** Promise 3. */
    public int cut(int n) {
        if (n < 0 || n > tape.length) {
            return NONE;
        }
        int gone = tape.length - n;
        tape.length = n;
        return gone;
    }

    /** Promise 4. */
    public int list(int l) {
        if (!within(l, 0, 3)) {
            tape.length = 0;
            return NONE;
        }
        Script script = board.spare;
        script.read(tape);
        if (tape.fault == 0) {
            board.adopt(l);
        }
        return closeText(script.count);
    }

    /** Promise 5. */
    public int lock(int n) {
        if (!within(n, 0, 7)) {
            tape.length = 0;
            return NONE;
        }
        rig.readLock(tape, n);
        return closeText(0);
    }

    /** Promise 6. */
    public int rules() {
        prices.read(tape);
        return closeText(prices.count);
    }

    /** Promise 7. */
    public int shares() {
        parties.read(tape);
        return closeText(parties.named);
    }

    /** Promise 8. */
    public int fault() {
        return tape.fault;
    }

    /** Promise 9. */
    public int tracks(int l, int n, int m, int channel) {
        int cue = cueOf(l, n, m);
        if (cue < 0 || !within(channel, 1, 64)) {
            return NONE;
        }
        return board.players[l].script.tracked(cue, channel - 1);
    }

    /** Promise 10. */
    public boolean go(int l) {
        if (!within(l, 0, 3)) {
            return false;
        }
        int cue = board.players[l].following();
        if (cue < 0) {
            return false;
        }
        board.start(l, cue, now);
        return true;
    }

    /** Promise 11. */
    public boolean play(int l, int n, int m) {
        int cue = cueOf(l, n, m);
        if (cue < 0) {
            return false;
        }
        board.start(l, cue, now);
        return true;
    }

    /** Promise 12. */
    public int of(int l, int what) {
        if (!within(l, 0, 3)) {
            return NONE;
        }
        CueList player = board.players[l];
        switch (what) {
            case 0:
                return player.ownName();
            case 1:
                return player.waiting ? player.beginAt - now : 0;
            case 2:
                return player.followAt == NONE ? NONE : player.followAt - now;
            case 3:
                return player.master;
            case 4:
                return player.moving(now);
            case 5:
                return player.script.count;
            default:
                return NONE;
        }
    }

    /** Promise 13. */
    public int level(int l, int channel) {
        if (!within(l, 0, 3) || !within(channel, 1, 64)) {
            return NONE;
        }
        return board.players[l].levelAt(channel - 1, now);
    }

    /** Promise 14. */
    public int out(int channel) {
        return within(channel, 1, 64) ? board.mixed(channel - 1, now) : NONE;
    }

    /** Promise 15. */
    public boolean patch(int b, int channel, int curve) {
        if (!within(b, 0, 127) || !within(channel, 0, 64) || !within(curve, 0, 3)) {
            return false;
        }
        board.channels[b] = channel;
        board.curves[b] = curve;
        return true;
    }

    /** Promise 16. */
    public boolean grand(int n) {
        if (!within(n, 0, 255)) {
            return false;
        }
        board.grand = n;
        return true;
    }

    /** Promise 17. */
    public int wire(int b) {
        return within(b, 0, 127) ? board.sent(b, now) : NONE;
    }

    /** Promise 18. */
    public boolean axis(int n, int low, int high, int speed, int acc) {
        boolean such = within(n, 0, 7) && within(low, 0, 99999) && within(high, 0, 99999) && low < high
                && within(speed, 1, 999) && within(acc, 1, 999);
        if (such) {
            rig.axes[n].place(low, high, speed, acc);
        }
        return such;
    }

    /** Promise 19. */
    public boolean to(int n, int p) {
        return rig.send(n, p);
    }

    /** Promise 20. */
    public int axisAt(int n, int what) {
        if (!within(n, 0, 7)) {
            return NONE;
        }
        if (what == 6) {
            return rig.lockTrue(n) ? 1 : 0;
        }
        return rig.axes[n].tell(what);
    }

    /** Promise 21. */
    public boolean faults(int n, int which) {
        if (!within(n, 0, 7) || !within(which, 0, 7) || !rig.axes[n].there) {
            return false;
        }
        rig.axes[n].fail(which);
        return true;
    }

    /** Promise 22. */
    public void stop(boolean on) {
        rig.halt(on);
    }

    /** Promise 23. */
    public boolean event(int n, boolean is) {
        if (!within(n, 0, 15)) {
            return false;
        }
        rig.events[n] = is;
        return true;
    }

    /** Promise 24. */
    public int tick(int n) {
        if (!within(n, 0, 500)) {
            return NONE;
        }
        for (int i = 0; i < n; i++) {
            now++;
            for (int l = 0; l < 4; l++) {
                board.step(l, now);
            }
            rig.step();
        }
        // Nothing within a tick looks at seats, so holds that ended on the way can go together.
        box.expire(now);
        return now;
    }

    /** Promise 25. */
    public boolean section(int s, int price) {
        if (!within(s, 0, 7) || !within(price, 0, 99999)) {
            return false;
        }
        hall.prices[s] = price;
        return true;
    }

    /** Promise 26. */
    public boolean row(int r, int s, int seats) {
        if (!within(r, 0, 39) || !within(s, 0, 7) || !within(seats, 1, 30)) {
            return false;
        }
        return hall.build(r, s, seats);
    }

    /** Promise 27. */
    public boolean line(int desk, boolean up) {
        if (!within(desk, 0, 3)) {
            return false;
        }
        hall.isCut[desk] = !up;
        return true;
    }

    /** Promise 28. */
    public int ask(int desk, int s, int n, int kind, int day, int till) {
        boolean such = within(desk, 0, 3) && within(s, 0, 7) && within(n, 1, 10)
                && within(kind, 0, 3) && within(day, 0, 6) && till > now;
        if (!such) {
            return NONE;
        }
        int number = box.freeHold();
        int spot = number < 0 ? NONE : hall.best(desk, s, n);
        if (spot < 0) {
            return NONE;
        }
        box.keep(number, spot, n);
        box.describe(number, kind, day, till);
        return number;
    }

    /** Promise 29. */
    public int hold(int h, int what) {
        return box.hasHold(h) ? box.tellHold(h, what) : NONE;
    }

    /** Promise 30. */
    public int pay(int h, int amount) {
        if (!box.hasHold(h) || box.tickets >= Box.TICKETS || box.price(h) != amount) {
            return NONE;
        }
        return box.sell(h, amount);
    }

    /** Promise 31. */
    public boolean give(int h) {
        if (!box.hasHold(h)) {
            return false;
        }
        box.drop(h);
        return true;
    }

    /** Promise 32. */
    public int back(int desk, int t) {
        if (!within(desk, 0, 3) || hall.isCut[desk] || !box.isOpen(t)) {
            return NONE;
        }
        return box.refund(t);
    }

    /** Promise 33. */
    public int enter(int t) {
        return box.isOpen(t) ? box.admit(t) : NONE;
    }

    /** Promise 34. */
    public int seat(int r, int k) {
        if (!within(r, 0, 39) || !within(k, 0, 29) || k >= hall.seats[r]) {
            return NONE;
        }
        return hall.states[r * Hall.WIDTH + k];
    }

    /** Promise 35. */
    public int told(int what) {
        switch (what) {
            case 0:
                return box.taken;
            case 1:
                return box.tickets - box.returned;
            case 2:
                return box.sold;
            case 3:
                return box.holds;
            case 4:
                return box.entered;
            case 5:
                return now;
            case 6:
                return rig.refusals();
            case 7:
                return rig.stopped ? 1 : 0;
            default:
                return NONE;
        }
    }

    /** Promise 36. */
    public long share(int p, int what) {
        if (!within(p, 0, 2) || !within(what, 0, 3)) {
            return NONE;
        }
        return parties.tell(p, what, box.taken);
    }

    /** Promise 37. */
    public int way(int from, int to, int many, int time) {
        boolean such = within(from, 0, 11) && within(to, 0, 11) && from != to
                && within(many, 1, 50) && within(time, 1, 20);
        return such && ways.count < Ways.MOST ? ways.add(from, to, many, time) : NONE;
    }

    /** Promise 38. */
    public boolean crowd(int node, int many) {
        if (!within(node, 0, 10) || !within(many, 0, 60)) {
            return false;
        }
        ways.crowds[node] = many;
        return true;
    }

    /** Promise 39. */
    public void clearWays() {
        ways.clear();
    }

    /** Promise 40. */
    public int empty() {
        return ways.leastTime();
    }

    private static boolean within(int n, int low, int high) {
        return n >= low && n <= high;
    }

    /** The halves are looked at one by one: 0 and 105 would else be taken for 1 and 5. */
    private int cueOf(int l, int n, int m) {
        if (!within(l, 0, 3) || !within(n, 1, 999) || !within(m, 0, 99)) {
            return NONE;
        }
        return board.players[l].script.find(100 * n + m);
    }

    private int closeText(int answer) {
        tape.length = 0;
        return tape.fault == 0 ? answer : -10 - tape.faultPlace;
    }

    /** The bytes of a text, and the token that is looked at. */
    private static final class Tape {
        static final int SIZE = 4000;
        static final int TOKEN = 1;
        static final int RANGE = 2;
        static final int ORDER = 3;
        static final int END = 0;
        static final int WORD = 1;
        static final int NUMBER = 2;
        static final int SIGN = 3;
        static final int BAD = 4;
        static final String SIGNS = "{}();,.-:@/|&!<>+%";

        final byte[] bytes = new byte[SIZE];
        int length;
        int kind;
        int place;
        int after;
        int value;
        int used;
        int limit;
        int fault;
        int faultPlace;

        boolean hasRoom() {
            return length + 20 <= SIZE;
        }

        void append(int four) {
            for (int shift = 24; shift >= 0 && length < SIZE; shift -= 8) {
                bytes[length] = (byte) (four >> shift);
                length++;
            }
        }

        void open(int mostTokens) {
            limit = mostTokens;
            used = NONE;
            fault = 0;
            faultPlace = 0;
            after = 0;
            next();
        }

        /** The first fault stays; behind it the text is as if ended, which ends every reader's loops. */
        void fail(int which, int where) {
            if (fault == 0) {
                fault = which;
                faultPlace = where;
            }
            kind = END;
            place = length;
            after = length;
        }

        /** Goes beyond the token; one too much is told here, when it could stand where it is. */
        void next() {
            used++;
            if (used > limit) {
                fail(RANGE, place);
                return;
            }
            int at = after;
            while (at < length && isBlank(bytes[at])) {
                at++;
            }
            place = at;
            if (at >= length) {
                kind = END;
                after = length;
                return;
            }
            int c = bytes[at];
            if (c >= 'a' && c <= 'z') {
                scanWord();
            } else if (c >= '0' && c <= '9') {
                scanNumber();
            } else {
                kind = c > 0 && SIGNS.indexOf((char) c) >= 0 ? SIGN : BAD;
                value = c;
                after = at + 1;
            }
        }

        private static boolean isBlank(int c) {
            return c == 32 || c == 9 || c == 13 || c == 10;
        }

        private void scanWord() {
            int at = place;
            while (at < length && bytes[at] >= 'a' && bytes[at] <= 'z') {
                at++;
            }
            kind = at - place <= 12 ? WORD : BAD;
            after = at;
        }

        private void scanNumber() {
            int at = place;
            int sum = 0;
            while (at < length && bytes[at] >= '0' && bytes[at] <= '9') {
                sum = Math.min(100000, sum * 10 + bytes[at] - '0');
                at++;
            }
            boolean lettered = at < length && bytes[at] >= 'a' && bytes[at] <= 'z';
            kind = sum > 99999 || lettered ? BAD : NUMBER;
            value = sum;
            after = at;
        }

        boolean isSign(char c) {
            return kind == SIGN && value == c;
        }

        boolean takes(char c) {
            if (!isSign(c)) {
                return false;
            }
            next();
            return true;
        }

        void need(char c) {
            if (isSign(c)) {
                next();
            } else {
                fail(TOKEN, place);
            }
        }

        boolean isWord(String word) {
            if (kind != WORD || after - place != word.length()) {
                return false;
            }
            for (int i = 0; i < word.length() && place + i < length; i++) {
                if (bytes[place + i] != word.charAt(i)) {
                    return false;
                }
            }
            return true;
        }

        boolean takesWord(String word) {
            if (!isWord(word)) {
                return false;
            }
            next();
            return true;
        }

        void needWord(String word) {
            if (isWord(word)) {
                next();
            } else {
                fail(TOKEN, place);
            }
        }

        /** Answers low behind a fault, so that what is made of it stays in range. */
        int number(int low, int high) {
            if (kind != NUMBER) {
                fail(TOKEN, place);
                return low;
            }
            int n = value;
            if (n < low || n > high) {
                fail(RANGE, place);
                return low;
            }
            next();
            return n;
        }
    }

    /** The cues of a list's text. What a cue tracks is looked up in the acts, which is far less to keep than levels. */
    private static final class Script {
        static final int CUES = 60;
        static final int ACTS = 300;
        static final int CHANNELS = 0;
        static final int AXIS = 1;
        static final int LET = 2;
        static final int FIRE = 3;
        static final int GO = 4;
        static final int MASTER = 5;

        final int[] names = new int[CUES];
        final int[] ups = new int[CUES];
        final int[] downs = new int[CUES];
        final int[] waits = new int[CUES];
        final int[] follows = new int[CUES];
        final int[] links = new int[CUES];
        final int[] bases = new int[CUES];
        final int[] firsts = new int[CUES + 1];
        final int[] kinds = new int[ACTS];
        final int[] whose = new int[ACTS];
        final int[] values = new int[ACTS];
        final long[] masks = new long[ACTS];
        int count;
        int acts;

        void read(Tape tape) {
            count = 0;
            acts = 0;
            firsts[0] = 0;
            tape.open(Tape.SIZE);
            for (int i = 0; i <= CUES && tape.kind != Tape.END; i++) {
                readHead(tape);
                readOptions(tape);
                readBody(tape);
            }
        }

        private void readHead(Tape tape) {
            if (!tape.isWord("cue")) {
                tape.fail(Tape.TOKEN, tape.place);
            } else if (count >= CUES) {
                tape.fail(Tape.RANGE, tape.place);
            }
            if (tape.fault != 0 || count >= CUES) {
                return;
            }
            tape.next();
            int where = tape.place;
            int name = readName(tape);
            if (tape.fault == 0 && count > 0 && name <= names[count - 1]) {
                tape.fail(Tape.ORDER, where);
            }
            names[count] = name;
            ups[count] = 0;
            downs[count] = 0;
            waits[count] = 0;
            follows[count] = 0;
            links[count] = 0;
            bases[count] = count > 0 ? bases[count - 1] : 0;
        }

        private int readName(Tape tape) {
            int name = 100 * tape.number(1, 999);
            return tape.takes('.') ? name + tape.number(1, 99) : name;
        }

        /** Seven turns are one more than there are options: the seventh can but be a fault or the end of them. */
        private void readOptions(Tape tape) {
            int seen = 0;
            for (int i = 0; i < 7 && tape.fault == 0; i++) {
                int option = optionAt(tape);
                if (option < 0) {
                    return;
                }
                if ((seen >> option & 1) != 0) {
                    tape.fail(Tape.ORDER, tape.place);
                    return;
                }
                seen |= 1 << option;
                tape.next();
                readOption(tape, option);
            }
        }

        private static int optionAt(Tape tape) {
            if (tape.isWord("up")) {
                return 0;
            }
            if (tape.isWord("down")) {
                return 1;
            }
            if (tape.isWord("wait")) {
                return 2;
            }
            if (tape.isWord("follow")) {
                return 3;
            }
            if (tape.isWord("block")) {
                return 4;
            }
            return tape.isWord("link") ? 5 : NONE;
        }

        private void readOption(Tape tape, int option) {
            if (count >= CUES) {
                return;
            }
            switch (option) {
                case 0:
                    ups[count] = tape.number(0, 9999);
                    break;
                case 1:
                    downs[count] = tape.number(0, 9999);
                    break;
                case 2:
                    waits[count] = tape.number(0, 9999);
                    break;
                case 3:
                    follows[count] = tape.number(1, 9999);
                    break;
                case 4:
                    bases[count] = acts;
                    break;
                default:
                    links[count] = readName(tape);
                    break;
            }
        }

        private void readBody(Tape tape) {
            tape.need('{');
            for (int i = 0; i <= ACTS && tape.fault == 0 && !tape.isSign('}'); i++) {
                readAct(tape);
                tape.need(';');
            }
            tape.need('}');
            if (tape.fault == 0 && count < CUES) {
                count++;
                firsts[count] = acts;
            }
        }

        private void readAct(Tape tape) {
            int kind = kindAt(tape);
            if (kind < 0 || acts >= ACTS) {
                tape.fail(kind < 0 ? Tape.TOKEN : Tape.RANGE, tape.place);
                return;
            }
            tape.next();
            kinds[acts] = kind;
            masks[acts] = kind == CHANNELS ? readChannels(tape) : 0L;
            whose[acts] = kind == CHANNELS ? 0 : tape.number(0, mostOf(kind));
            switch (kind) {
                case AXIS:
                    tape.needWord("to");
                    values[acts] = tape.number(0, 99999);
                    break;
                case GO:
                    values[acts] = readName(tape);
                    break;
                case CHANNELS:
                case MASTER:
                    tape.needWord("at");
                    values[acts] = tape.number(0, 255);
                    break;
                default:
                    values[acts] = 0;
                    break;
            }
            acts++;
        }

        /** The greatest number of what an act is for: events, axes, else lists. */
        private static int mostOf(int kind) {
            if (kind == FIRE) {
                return 15;
            }
            return kind == AXIS || kind == LET ? 7 : 3;
        }

        private static int kindAt(Tape tape) {
            if (tape.isWord("channels")) {
                return CHANNELS;
            }
            if (tape.isWord("axis")) {
                return AXIS;
            }
            if (tape.isWord("let")) {
                return LET;
            }
            if (tape.isWord("fire")) {
                return FIRE;
            }
            if (tape.isWord("go")) {
                return GO;
            }
            return tape.isWord("master") ? MASTER : NONE;
        }

        /** The bound is the tape's own: each turn takes a byte at least. */
        private static long readChannels(Tape tape) {
            long mask = 0L;
            for (int i = 0; i < Tape.SIZE; i++) {
                int first = tape.number(1, 64);
                int last = tape.takes('-') ? tape.number(first, 64) : first;
                mask |= (-1L >>> (63 - (last - first))) << (first - 1);
                if (!tape.takes(',')) {
                    break;
                }
            }
            return mask;
        }

        int find(int name) {
            for (int c = 0; c < count; c++) {
                if (names[c] == name) {
                    return c;
                }
            }
            return NONE;
        }

        int tracked(int cue, int channel) {
            if (cue < 0 || cue >= count) {
                return 0;
            }
            for (int a = firsts[cue + 1] - 1; a >= bases[cue]; a--) {
                if ((masks[a] >>> channel & 1L) != 0L) {
                    return values[a];
                }
            }
            return 0;
        }

        /** From the last act back, so that the first that names a channel is the one that counts. */
        void trackAll(int cue, int[] levels) {
            Arrays.fill(levels, 0);
            if (cue < 0 || cue >= count || levels.length < 64) {
                return;
            }
            long open = -1L;
            for (int a = firsts[cue + 1] - 1; a >= bases[cue] && open != 0L; a--) {
                long hit = masks[a] & open;
                open &= ~hit;
                for (int left = Long.bitCount(hit); left > 0; left--) {
                    levels[Long.numberOfTrailingZeros(hit) & 63] = values[a];
                    hit &= hit - 1;
                }
            }
        }
    }

    /** A list that plays: its cue, what is to come, and how its channels go. */
    private static final class CueList {
        Script script = new Script();
        final int[] targets = new int[64];
        final int[] starts = new int[64];
        final int[] since = new int[64];
        final int[] spans = new int[64];
        int cue = NONE;
        boolean waiting;
        int beginAt;
        int followAt = NONE;
        int master = 255;

        void reset() {
            Arrays.fill(targets, 0);
            Arrays.fill(spans, 0);
            cue = NONE;
            waiting = false;
            followAt = NONE;
            master = 255;
        }

        int ownName() {
            return cue >= 0 && cue < script.count ? script.names[cue] : 0;
        }

        /** The cue that is played when the list goes, or NONE. */
        int following() {
            if (cue >= 0 && cue < script.count && script.links[cue] > 0) {
                int linked = script.find(script.links[cue]);
                if (linked >= 0) {
                    return linked;
                }
            }
            return cue + 1 < script.count ? cue + 1 : NONE;
        }

        void arm(int which, int when) {
            cue = which;
            waiting = true;
            beginAt = when;
            followAt = NONE;
        }

        void fade(int channel, int target, int now) {
            int here = levelAt(channel, now);
            boolean rises = target > here;
            starts[channel] = here;
            targets[channel] = target;
            since[channel] = now;
            spans[channel] = rises ? script.ups[cue] : script.downs[cue];
        }

        int levelAt(int channel, int now) {
            int span = spans[channel];
            int gone = now - since[channel];
            if (span <= 0 || gone >= span) {
                return targets[channel];
            }
            int way = targets[channel] - starts[channel];
            return starts[channel] + Math.floorDiv(2 * way * gone + span, 2 * span);
        }

        int moving(int now) {
            int sum = 0;
            for (int c = 0; c < 64; c++) {
                if (levelAt(c, now) != targets[c]) {
                    sum++;
                }
            }
            return sum;
        }
    }

    /** The four lists together, and the wire that they are mixed to. */
    private static final class Board {
        final CueList[] players = new CueList[4];
        final int[] owners = new int[64];
        final int[] goals = new int[64];
        final int[] channels = new int[128];
        final int[] curves = new int[128];
        final Rig rig;
        Script spare = new Script();
        int grand = 255;

        Board(Rig rig) {
            this.rig = rig;
            for (int l = 0; l < 4; l++) {
                players[l] = new CueList();
            }
            Arrays.fill(owners, NONE);
        }

        /** The spare script is the list's now; its old one is the next text's room. */
        void adopt(int l) {
            CueList player = players[l];
            Script old = player.script;
            player.script = spare;
            spare = old;
            player.reset();
            for (int c = 0; c < 64; c++) {
                if (owners[c] == l) {
                    owners[c] = NONE;
                }
            }
        }

        void start(int l, int cue, int now) {
            CueList player = players[l];
            if (cue < 0 || cue >= player.script.count) {
                return;
            }
            int wait = player.script.waits[cue];
            player.arm(cue, now + wait);
            if (wait == 0) {
                begin(l, now);
            }
        }

        void step(int l, int now) {
            CueList player = players[l];
            if (player.waiting) {
                if (player.beginAt <= now) {
                    begin(l, now);
                }
            } else if (player.followAt != NONE && player.followAt <= now) {
                player.followAt = NONE;
                start(l, player.following(), now);
            }
        }

        /** The follow is set ahead of the acts: a go to the list itself has to take it away. */
        private void begin(int l, int now) {
            CueList player = players[l];
            Script script = player.script;
            int cue = player.cue;
            if (cue < 0 || cue >= script.count) {
                return;
            }
            player.waiting = false;
            player.followAt = script.follows[cue] > 0 ? now + script.follows[cue] : NONE;
            script.trackAll(cue, goals);
            for (int c = 0; c < 64; c++) {
                if (goals[c] != player.targets[c]) {
                    player.fade(c, goals[c], now);
                    owners[c] = l;
                }
            }
            for (int a = script.firsts[cue]; a < script.firsts[cue + 1]; a++) {
                runAct(script, a, now);
            }
        }

        private void runAct(Script script, int a, int now) {
            int n = script.whose[a];
            int value = script.values[a];
            switch (script.kinds[a]) {
                case Script.AXIS:
                    rig.send(n, value);
                    break;
                case Script.LET:
                    rig.axes[n].target = NONE;
                    break;
                case Script.FIRE:
                    rig.events[n] = true;
                    break;
                case Script.GO:
                    callCue(players[n], value, now);
                    break;
                case Script.MASTER:
                    players[n].master = value;
                    break;
                default:
                    break;
            }
        }

        /** An act's go waits a tick at least, so cues that call one another can't turn for ever. */
        private static void callCue(CueList player, int name, int now) {
            int cue = player.script.find(name);
            if (cue >= 0) {
                player.arm(cue, now + Math.max(1, player.script.waits[cue]));
            }
        }

        int mixed(int channel, int now) {
            if (channel >= 48) {
                int owner = owners[channel];
                return owner < 0 ? 0 : players[owner].levelAt(channel, now);
            }
            int most = 0;
            for (int l = 0; l < 4; l++) {
                most = Math.max(most, scaled(players[l].levelAt(channel, now), players[l].master));
            }
            return most;
        }

        int sent(int b, int now) {
            if (channels[b] == 0) {
                return 0;
            }
            int level = mixed(channels[b] - 1, now);
            switch (curves[b]) {
                case 1:
                    level = scaled(level, level);
                    break;
                case 2:
                    level = level >= 128 ? 255 : 0;
                    break;
                case 3:
                    level = 255 - level;
                    break;
                default:
                    break;
            }
            return scaled(level, grand);
        }

        private static int scaled(int level, int by) {
            return (2 * level * by + 255) / 510;
        }
    }

    /** An axis; its lock is kept as codes in postfix order. */
    private static final class Axis {
        static final int DEAD = 1;
        static final int BLIND = 2;
        static final int SLOW = 4;

        boolean there;
        int low;
        int high;
        int speed;
        int acc;
        int at;
        int pace;
        int target = NONE;
        int seen;
        int seenBefore;
        int failed;
        int refused;
        int[] codes = new int[Rig.TOKENS];
        int codeCount;

        void place(int newLow, int newHigh, int newSpeed, int newAcc) {
            there = true;
            low = newLow;
            high = newHigh;
            speed = newSpeed;
            acc = newAcc;
            at = newLow;
            pace = 0;
            target = NONE;
            seen = newLow;
            seenBefore = newLow;
            failed = 0;
        }

        void fail(int which) {
            failed = which;
            if ((which & DEAD) != 0) {
                target = NONE;
            }
        }

        int tell(int what) {
            if (what == 0) {
                return there ? 1 : 0;
            }
            if (what == 7) {
                return refused;
            }
            if (!there) {
                return NONE;
            }
            switch (what) {
                case 1:
                    return at;
                case 2:
                    return pace;
                case 3:
                    return target;
                case 4:
                    return seen;
                case 5:
                    return failed;
                default:
                    return NONE;
            }
        }

        void move() {
            if (target == NONE) {
                pace = pace > 0 ? Math.max(0, pace - acc) : Math.min(0, pace + acc);
                at += pace;
                return;
            }
            int way = target - at;
            // On the target itself both signs lead to the same: the speed shrinks.
            boolean forward = way > 0 || way == 0 && pace > 0;
            int toward = forward ? pace : -pace;
            int next = toward < 0 ? Math.min(0, toward + acc) : paceFor(toward, Math.abs(way));
            pace = forward ? next : -next;
            at += pace;
            if (at == target && pace == 0) {
                target = NONE;
            }
        }

        /** What a speed needs to come to rest grows with it, so the greatest one can be halved for. */
        private int paceFor(int toward, int distance) {
            int top = (failed & SLOW) != 0 ? Math.max(1, speed / 2) : speed;
            int least = Math.max(0, toward - acc);
            int most = Math.min(toward + acc, top);
            if (most <= least || !restsWithin(least, distance)) {
                return least;
            }
            for (int i = 0; i < 12 && least < most; i++) {
                int middle = (least + most + 1) / 2;
                if (restsWithin(middle, distance)) {
                    least = middle;
                } else {
                    most = middle - 1;
                }
            }
            return least;
        }

        private boolean restsWithin(int x, int distance) {
            int steps = x > 0 && acc > 0 ? (x - 1) / acc : 0;
            return x + steps * x - acc * steps * (steps + 1) / 2 <= distance;
        }

        void look() {
            seenBefore = seen;
            if ((failed & BLIND) == 0) {
                seen = at;
            }
        }
    }

    /** The axes, the events and the stop; reads locks and tells whether they are true. */
    private static final class Rig {
        static final int TOKENS = 60;
        static final int DEEPEST = 12;
        static final int NOT = 0;
        static final int AND = 1;
        static final int OR = 2;
        static final int BELOW = 3;
        static final int ABOVE = 4;
        static final int STILL = 5;
        static final int EVENT = 6;

        final Axis[] axes = new Axis[8];
        final boolean[] events = new boolean[16];
        boolean stopped;
        int[] scratch = new int[TOKENS];
        int size;

        Rig() {
            for (int n = 0; n < 8; n++) {
                axes[n] = new Axis();
            }
        }

        void halt(boolean on) {
            stopped = on;
            for (int n = 0; n < 8 && on; n++) {
                axes[n].target = NONE;
            }
        }

        boolean send(int n, int p) {
            if (n < 0 || n > 7) {
                return false;
            }
            Axis axis = axes[n];
            boolean may = axis.there && p >= axis.low && p <= axis.high
                    && (axis.failed & Axis.DEAD) == 0 && !stopped && lockTrue(n);
            if (may) {
                axis.target = p;
            } else {
                axis.refused++;
            }
            return may;
        }

        int refusals() {
            int sum = 0;
            for (int n = 0; n < 8; n++) {
                sum += axes[n].refused;
            }
            return sum;
        }

        void step() {
            for (int n = 0; n < 8; n++) {
                if (axes[n].target != NONE && !lockTrue(n)) {
                    axes[n].target = NONE;
                }
            }
            for (int n = 0; n < 8; n++) {
                if (axes[n].there) {
                    axes[n].move();
                    axes[n].look();
                }
            }
        }

        /** Sixty tokens within twelve brackets leave far fewer open parts than a long has bits. */
        boolean lockTrue(int n) {
            Axis axis = axes[n];
            if (axis.codeCount == 0) {
                return true;
            }
            long stack = 0L;
            for (int i = 0; i < axis.codeCount && i < TOKENS; i++) {
                int code = axis.codes[i];
                long top = stack & 1L;
                switch (code & 7) {
                    case NOT:
                        stack ^= 1L;
                        break;
                    case AND:
                        stack = stack >>> 1 & (top | ~1L);
                        break;
                    case OR:
                        stack = stack >>> 1 | top;
                        break;
                    default:
                        stack = stack << 1 | (termTrue(code) ? 1L : 0L);
                        break;
                }
            }
            return (stack & 1L) != 0L;
        }

        private boolean termTrue(int code) {
            int n = code >> 3 & 15;
            int kind = code & 7;
            if (kind == EVENT) {
                return events[n];
            }
            Axis axis = axes[n & 7];
            if (kind == STILL) {
                return !axis.there || axis.seen == axis.seenBefore;
            }
            int bound = code >> 7;
            return axis.there && (kind == BELOW ? axis.seen < bound : axis.seen > bound);
        }

        void readLock(Tape tape, int n) {
            size = 0;
            tape.open(TOKENS);
            readOr(tape, 0);
            if (tape.kind != Tape.END) {
                tape.fail(Tape.TOKEN, tape.place);
            }
            if (tape.fault == 0) {
                Axis axis = axes[n];
                int[] old = axis.codes;
                axis.codes = scratch;
                axis.codeCount = size;
                scratch = old;
            }
        }

        /** An or is told only when its right side can grow no more by an and. */
        private void readOr(Tape tape, int depth) {
            boolean open = false;
            readNot(tape, depth);
            for (int i = 0; i < TOKENS; i++) {
                if (tape.takes('&')) {
                    readNot(tape, depth);
                    emit(AND, 0, 0);
                    continue;
                }
                if (open) {
                    emit(OR, 0, 0);
                }
                open = tape.takes('|');
                if (!open) {
                    break;
                }
                readNot(tape, depth);
            }
        }

        private void readNot(Tape tape, int depth) {
            if (!tape.isSign('!') && !tape.isSign('(')) {
                readTerm(tape);
                return;
            }
            if (depth >= DEEPEST) {
                tape.fail(Tape.RANGE, tape.place);
                return;
            }
            if (tape.takes('!')) {
                readNot(tape, depth + 1);
                emit(NOT, 0, 0);
            } else {
                tape.next();
                readOr(tape, depth + 1);
                tape.need(')');
            }
        }

        private void readTerm(Tape tape) {
            if (tape.takesWord("axis")) {
                int n = tape.number(0, 7);
                boolean below = tape.takes('<');
                if (!below) {
                    tape.need('>');
                }
                emit(below ? BELOW : ABOVE, n, tape.number(0, 99999));
            } else if (tape.takesWord("still")) {
                emit(STILL, tape.number(0, 7), 0);
            } else if (tape.takesWord("event")) {
                emit(EVENT, tape.number(0, 15), 0);
            } else {
                tape.fail(Tape.TOKEN, tape.place);
            }
        }

        private void emit(int kind, int n, int bound) {
            if (size < TOKENS) {
                scratch[size] = kind | n << 3 | bound << 7;
                size++;
            }
        }
    }

    /** Sections, rows, seats, and the desks' lines. */
    private static final class Hall {
        static final int WIDTH = 30;
        static final int FREE = 0;
        static final int HELD = 1;
        static final int SOLD = 2;

        final int[] prices = new int[8];
        final int[] sections = new int[40];
        final int[] seats = new int[40];
        final int[] states = new int[40 * WIDTH];
        final boolean[] isCut = new boolean[4];

        boolean build(int r, int s, int many) {
            for (int k = 0; k < seats[r]; k++) {
                if (states[r * WIDTH + k] != FREE) {
                    return false;
                }
            }
            sections[r] = s;
            seats[r] = many;
            return true;
        }

        void mark(int spot, int many, int state) {
            for (int k = 0; k < many && spot + k < states.length; k++) {
                states[spot + k] = state;
            }
        }

        /** The first of the best seats as row times WIDTH and seat, or NONE. */
        int best(int desk, int s, int n) {
            int owners = ownersFor(desk);
            int found = NONE;
            int least = Integer.MAX_VALUE;
            for (int r = 0; r < 40; r++) {
                if (seats[r] < n || sections[r] != s) {
                    continue;
                }
                int run = 0;
                for (int k = 0; k < seats[r]; k++) {
                    boolean takes = states[r * WIDTH + k] == FREE && (owners >> ((r + k) & 3) & 1) != 0;
                    run = takes ? run + 1 : 0;
                    if (run < n) {
                        continue;
                    }
                    int worth = badness(r, k - n + 1, k);
                    if (worth < least) {
                        least = worth;
                        found = r * WIDTH + k - n + 1;
                    }
                }
            }
            return found;
        }

        /** A bit for each desk whose own seats may be taken. */
        private int ownersFor(int desk) {
            if (isCut[desk]) {
                return 1 << desk;
            }
            int owners = 0;
            for (int d = 0; d < 4; d++) {
                if (!isCut[d]) {
                    owners |= 1 << d;
                }
            }
            return owners;
        }

        /** Rows and distances together stay below 1000, so that lone seats weigh first. */
        private int badness(int r, int first, int last) {
            int lone = 0;
            if (isFree(r, first - 1) && !isFree(r, first - 2)) {
                lone++;
            }
            if (isFree(r, last + 1) && !isFree(r, last + 2)) {
                lone++;
            }
            return 1000 * lone + 3 * r + Math.abs(first + last - (seats[r] - 1));
        }

        private boolean isFree(int r, int k) {
            return k >= 0 && k < seats[r] && states[r * WIDTH + k] == FREE;
        }
    }

    /** The rules of prices; the text is read into the spare half and told when it has no fault. */
    private static final class Prices {
        static final int RULES = 20;
        static final int MOST = 1000000;
        static final int FIELDS = 6;

        int[] told = new int[RULES * FIELDS];
        int[] spare = new int[RULES * FIELDS];
        int count;

        void read(Tape tape) {
            int rules = 0;
            tape.open(Tape.SIZE);
            for (int i = 0; i <= RULES && tape.kind != Tape.END; i++) {
                if (conditionAt(tape) < 0) {
                    tape.fail(Tape.TOKEN, tape.place);
                } else if (rules >= RULES) {
                    tape.fail(Tape.RANGE, tape.place);
                } else {
                    readRule(tape, rules * FIELDS);
                    rules++;
                }
            }
            if (tape.fault == 0) {
                int[] old = told;
                told = spare;
                spare = old;
                count = rules;
            }
        }

        private static int conditionAt(Tape tape) {
            if (tape.isWord("many")) {
                return 0;
            }
            if (tape.isWord("kind")) {
                return 1;
            }
            if (tape.isWord("day")) {
                return 2;
            }
            return tape.isWord("section") ? 3 : NONE;
        }

        /** A rule: the least many, the bits of kinds, days and sections that it is for, its change, its number. */
        private void readRule(Tape tape, int base) {
            spare[base] = 0;
            spare[base + 1] = 15;
            spare[base + 2] = 127;
            spare[base + 3] = 255;
            for (int i = 0; i < Tape.SIZE; i++) {
                readCondition(tape, base);
                if (!tape.takes(',')) {
                    break;
                }
            }
            tape.need(':');
            readChange(tape, base);
            tape.need(';');
        }

        private void readCondition(Tape tape, int base) {
            int which = conditionAt(tape);
            if (which < 0) {
                tape.fail(Tape.TOKEN, tape.place);
                return;
            }
            tape.next();
            if (which == 0) {
                spare[base] = Math.max(spare[base], tape.number(1, 10));
            } else {
                int most = which == 1 ? 3 : which == 2 ? 6 : 7;
                spare[base + which] &= 1 << tape.number(0, most);
            }
        }

        private void readChange(Tape tape, int base) {
            boolean such = tape.isSign('%') || tape.isSign('-') || tape.isSign('+') || tape.isSign('@');
            if (!such) {
                tape.fail(Tape.TOKEN, tape.place);
                return;
            }
            int sign = tape.value;
            tape.next();
            spare[base + 4] = sign;
            spare[base + 5] = tape.number(0, sign == '%' ? 200 : 99999);
        }

        int priceOf(int section, int n, int kind, int day, int single) {
            int price = Math.min(MOST, n * single);
            for (int i = 0; i < count && i < RULES; i++) {
                int base = i * FIELDS;
                boolean holds = n >= told[base] && (told[base + 1] >> kind & 1) != 0
                        && (told[base + 2] >> day & 1) != 0 && (told[base + 3] >> section & 1) != 0;
                if (holds) {
                    price = Math.min(MOST, changed(price, told[base + 4], told[base + 5], n));
                }
            }
            return price;
        }

        private static int changed(int price, int sign, int by, int n) {
            switch (sign) {
                case '%':
                    return (2 * price * by + 100) / 200;
                case '-':
                    return Math.max(0, price - by);
                case '+':
                    return price + by;
                default:
                    return by * n;
            }
        }
    }

    /** Holds, tickets and what was taken for them. */
    private static final class Box {
        static final int HOLDS = 60;
        static final int TICKETS = 300;
        static final int OPEN = 0;
        static final int ENTERED = 1;
        static final int RETURNED = 2;

        final Hall hall;
        final Prices prices;
        final int[] spots = new int[HOLDS];
        final int[] sizes = new int[HOLDS];
        final int[] kinds = new int[HOLDS];
        final int[] days = new int[HOLDS];
        final int[] ends = new int[HOLDS];
        final int[] soldSpots = new int[TICKETS];
        final int[] soldSizes = new int[TICKETS];
        final int[] paid = new int[TICKETS];
        final int[] marks = new int[TICKETS];
        int holds;
        int tickets;
        int returned;
        int taken;
        int sold;
        int entered;

        Box(Hall hall, Prices prices) {
            this.hall = hall;
            this.prices = prices;
        }

        boolean hasHold(int h) {
            return h >= 0 && h < HOLDS && sizes[h] > 0;
        }

        int freeHold() {
            for (int h = 0; h < HOLDS; h++) {
                if (sizes[h] == 0) {
                    return h;
                }
            }
            return NONE;
        }

        void keep(int h, int spot, int n) {
            spots[h] = spot;
            sizes[h] = n;
            holds++;
            hall.mark(spot, n, Hall.HELD);
        }

        void describe(int h, int kind, int day, int till) {
            kinds[h] = kind;
            days[h] = day;
            ends[h] = till;
        }

        void drop(int h) {
            hall.mark(spots[h], sizes[h], Hall.FREE);
            sizes[h] = 0;
            holds--;
        }

        void expire(int now) {
            for (int h = 0; h < HOLDS && holds > 0; h++) {
                if (sizes[h] > 0 && ends[h] <= now) {
                    drop(h);
                }
            }
        }

        int price(int h) {
            int section = hall.sections[spots[h] / Hall.WIDTH];
            return prices.priceOf(section, sizes[h], kinds[h], days[h], hall.prices[section]);
        }

        int tellHold(int h, int what) {
            switch (what) {
                case 0:
                    return spots[h] / Hall.WIDTH;
                case 1:
                    return spots[h] % Hall.WIDTH;
                case 2:
                    return sizes[h];
                case 3:
                    return price(h);
                case 4:
                    return ends[h];
                default:
                    return NONE;
            }
        }

        int sell(int h, int amount) {
            int t = tickets;
            if (t >= TICKETS) {
                return NONE;
            }
            soldSpots[t] = spots[h];
            soldSizes[t] = sizes[h];
            paid[t] = amount;
            marks[t] = OPEN;
            tickets++;
            taken += amount;
            sold += sizes[h];
            drop(h);
            hall.mark(soldSpots[t], soldSizes[t], Hall.SOLD);
            return t;
        }

        /** Neither entered nor given back. */
        boolean isOpen(int t) {
            return t >= 0 && t < tickets && t < TICKETS && marks[t] == OPEN;
        }

        int refund(int t) {
            marks[t] = RETURNED;
            returned++;
            taken -= paid[t];
            sold -= soldSizes[t];
            hall.mark(soldSpots[t], soldSizes[t], Hall.FREE);
            return paid[t];
        }

        int admit(int t) {
            marks[t] = ENTERED;
            entered += soldSizes[t];
            return soldSizes[t];
        }
    }

    /** The shares of three parties as three equations, solved by determinants: longs are wide enough for them. */
    private static final class Parties {
        static final int FIELDS = 5;
        static final int OF_TAKEN = 3;
        static final int PLAIN = 4;

        int[] told = new int[3 * FIELDS];
        int[] spare = new int[3 * FIELDS];
        int named;
        final long[] rows = new long[9];
        final long[] sides = new long[3];

        void read(Tape tape) {
            int seen = 0;
            Arrays.fill(spare, 0);
            tape.open(Tape.SIZE);
            for (int i = 0; i < 4 && tape.kind != Tape.END; i++) {
                int where = tape.place;
                int p = tape.number(0, 2);
                if (tape.fault == 0 && (seen >> p & 1) != 0) {
                    tape.fail(Tape.ORDER, where);
                }
                seen |= 1 << p;
                tape.need(':');
                readTerms(tape, p * FIELDS);
                tape.need(';');
            }
            if (tape.fault == 0) {
                int[] old = told;
                told = spare;
                spare = old;
                named = Integer.bitCount(seen);
            }
        }

        private void readTerms(Tape tape, int base) {
            for (int i = 0; i < 5; i++) {
                if (i == 4 && tape.kind == Tape.NUMBER) {
                    tape.fail(Tape.RANGE, tape.place);
                }
                readTerm(tape, base);
                if (!tape.takes('+')) {
                    break;
                }
            }
        }

        private void readTerm(Tape tape, int base) {
            int where = tape.place;
            int n = tape.number(0, 99999);
            if (!tape.isSign('%')) {
                spare[base + PLAIN] += n;
                return;
            }
            if (n > 100) {
                tape.fail(Tape.RANGE, where);
                return;
            }
            tape.next();
            tape.needWord("of");
            int whose = tape.takesWord("taken") ? OF_TAKEN : tape.number(0, 2);
            spare[base + whose] += n;
        }

        long tell(int p, int what, int taken) {
            fillRows(taken);
            long whole = determinant();
            if (whole == 0L || what == 3) {
                return whole == 0L ? 0L : 1L;
            }
            for (int i = 0; i < 3; i++) {
                rows[3 * i + p] = sides[i];
            }
            long part = determinant();
            if (whole < 0L) {
                whole = -whole;
                part = -part;
            }
            long rest = Math.floorMod(part, whole);
            if (what == 0) {
                return Math.floorDiv(part, whole);
            }
            long common = commonOf(rest, whole);
            return (what == 1 ? rest : whole) / common;
        }

        /** A hundred times what a party has, less its parts of the others, is what it has of the rest. */
        private void fillRows(int taken) {
            for (int p = 0; p < 3; p++) {
                int base = p * FIELDS;
                for (int q = 0; q < 3; q++) {
                    rows[3 * p + q] = (p == q ? 100L : 0L) - told[base + q];
                }
                sides[p] = (long) told[base + OF_TAKEN] * taken + 100L * told[base + PLAIN];
            }
        }

        private long determinant() {
            return rows[0] * (rows[4] * rows[8] - rows[5] * rows[7])
                    - rows[1] * (rows[3] * rows[8] - rows[5] * rows[6])
                    + rows[2] * (rows[3] * rows[7] - rows[4] * rows[6]);
        }

        /** With a rest of 0 it is the denominator itself, so that 0 and 1 are told. A hundred turns suit any long. */
        private static long commonOf(long a, long b) {
            long less = a;
            long more = b;
            for (int i = 0; i < 100 && less > 0L; i++) {
                long rest = more % less;
                more = less;
                less = rest;
            }
            return more > 0L ? more : 1L;
        }
    }

    /**
     * The ways out. A spot is a node at a tick; people flow from spots at tick 0 to those of the node outside.
     * The flow that was found for a time stays a flow for a longer one, so each time only adds to it.
     */
    private static final class Ways {
        static final int MOST = 20;
        static final int NODES = 12;
        static final int OUTSIDE = 11;
        static final int LONGEST = 50;
        static final int TIMES = LONGEST + 1;
        static final int SPOTS = NODES * TIMES;
        static final int PLENTY = 1000000;

        final int[] froms = new int[MOST];
        final int[] tos = new int[MOST];
        final int[] widths = new int[MOST];
        final int[] times = new int[MOST];
        final int[] crowds = new int[NODES];
        final int[] left = new int[NODES];
        final int[] flows = new int[MOST * TIMES];
        final int[] waits = new int[SPOTS];
        final int[] layers = new int[SPOTS];
        final int[] tried = new int[SPOTS];
        final int[] spots = new int[SPOTS];
        final int[] touches = new int[NODES];
        final int[] touching = new int[NODES * 2 * MOST];
        int count;

        int add(int from, int to, int width, int time) {
            froms[count] = from;
            tos[count] = to;
            widths[count] = width;
            times[count] = time;
            note(from, count);
            note(to, count + MOST);
            count++;
            return count - 1;
        }

        /** A way that ends at the node is noted as its number and MOST. */
        private void note(int node, int what) {
            if (touches[node] < 2 * MOST) {
                touching[node * 2 * MOST + touches[node]] = what;
                touches[node]++;
            }
        }

        void clear() {
            count = 0;
            Arrays.fill(crowds, 0);
            Arrays.fill(touches, 0);
        }

        int leastTime() {
            int people = 0;
            for (int v = 0; v < OUTSIDE; v++) {
                left[v] = crowds[v];
                people += crowds[v];
            }
            Arrays.fill(flows, 0);
            Arrays.fill(waits, 0);
            for (int end = slowest(); end <= LONGEST; end++) {
                people -= sendMore(end);
                if (people == 0) {
                    return end;
                }
            }
            return NONE;
        }

        /** No time below that of the longest of all shortest ways can do; PLENTY where there is none. */
        private int slowest() {
            for (int v = 0; v < OUTSIDE; v++) {
                tried[v] = PLENTY;
            }
            tried[OUTSIDE] = 0;
            boolean changed = true;
            for (int turn = 0; turn < NODES && changed; turn++) {
                changed = false;
                for (int w = 0; w < count; w++) {
                    int time = tried[tos[w]] + times[w];
                    if (time < tried[froms[w]]) {
                        tried[froms[w]] = time;
                        changed = true;
                    }
                }
            }
            int most = 0;
            for (int v = 0; v < OUTSIDE; v++) {
                if (crowds[v] > 0) {
                    most = Math.max(most, tried[v]);
                }
            }
            return most;
        }

        private int sendMore(int end) {
            int sum = 0;
            for (int round = 0; round < PLENTY && layer(end); round++) {
                Arrays.fill(tried, 0);
                for (int v = 0; v < OUTSIDE; v++) {
                    sum += sendFrom(v, end);
                }
            }
            return sum;
        }

        private int sendFrom(int v, int end) {
            int sum = 0;
            for (int round = 0; round < 60 && left[v] > 0; round++) {
                int length = walk(v * TIMES, end);
                if (length < 0) {
                    break;
                }
                int many = narrowest(length, left[v]);
                for (int i = 0; i < length; i++) {
                    push(spots[i], tried[spots[i]], many);
                }
                left[v] -= many;
                sum += many;
            }
            return sum;
        }

        /** How many steps each spot is from those who are left; whether one outside is among them. */
        private boolean layer(int end) {
            Arrays.fill(layers, NONE);
            boolean found = false;
            int tail = 0;
            for (int v = 0; v < OUTSIDE; v++) {
                if (left[v] > 0) {
                    layers[v * TIMES] = 0;
                    spots[tail] = v * TIMES;
                    tail++;
                }
            }
            for (int head = 0; head < tail; head++) {
                int spot = spots[head];
                if (spot / TIMES == OUTSIDE) {
                    found = true;
                    continue;
                }
                int arcs = touches[spot / TIMES] + 2;
                for (int arc = 0; arc < arcs; arc++) {
                    int next = endOf(spot, arc, end);
                    if (next >= 0 && layers[next] < 0 && tail < SPOTS) {
                        layers[next] = layers[spot] + 1;
                        spots[tail] = next;
                        tail++;
                    }
                }
            }
            return found;
        }

        /** A path to the outside by layers, in spots with the arcs in tried: its length, or NONE. */
        private int walk(int start, int end) {
            int length = 0;
            spots[0] = start;
            for (int turn = 0; turn < PLENTY; turn++) {
                int spot = spots[length];
                if (spot / TIMES == OUTSIDE) {
                    return length;
                }
                int next = nextBy(spot, end);
                if (next >= 0 && length + 1 < SPOTS) {
                    length++;
                    spots[length] = next;
                } else if (length == 0) {
                    return NONE;
                } else {
                    length--;
                    tried[spots[length]]++;
                }
            }
            return NONE;
        }

        /** The first spot of the next layer by an arc that was not tried in vain. */
        private int nextBy(int spot, int end) {
            int arcs = touches[spot / TIMES] + 2;
            for (int arc = tried[spot]; arc < arcs; arc++) {
                int next = endOf(spot, arc, end);
                if (next >= 0 && layers[next] == layers[spot] + 1) {
                    tried[spot] = arc;
                    return next;
                }
            }
            tried[spot] = arcs;
            return NONE;
        }

        private int narrowest(int length, int most) {
            int many = most;
            for (int i = 0; i < length; i++) {
                many = Math.min(many, roomOf(spots[i], tried[spots[i]]));
            }
            return many;
        }

        /** Where an arc with room leads; NONE without room or beyond the time. The last two arcs wait, and take that back. */
        private int endOf(int spot, int arc, int end) {
            int node = spot / TIMES;
            int time = spot % TIMES;
            int known = touches[node];
            if (arc == known) {
                return time < end ? spot + 1 : NONE;
            }
            if (arc > known) {
                return time > 0 && waits[spot - 1] > 0 ? spot - 1 : NONE;
            }
            int what = touching[node * 2 * MOST + arc];
            if (what < MOST) {
                int later = time + times[what];
                return later <= end && flows[what * TIMES + time] < widths[what] ? tos[what] * TIMES + later : NONE;
            }
            int w = what - MOST;
            int earlier = time - times[w];
            return earlier >= 0 && flows[w * TIMES + earlier] > 0 ? froms[w] * TIMES + earlier : NONE;
        }

        private int roomOf(int spot, int arc) {
            int node = spot / TIMES;
            int time = spot % TIMES;
            if (arc == touches[node]) {
                return PLENTY;
            }
            if (arc > touches[node]) {
                return time > 0 ? waits[spot - 1] : 0;
            }
            int what = touching[node * 2 * MOST + arc];
            if (what < MOST) {
                return widths[what] - flows[what * TIMES + time];
            }
            int earlier = time - times[what - MOST];
            return earlier >= 0 ? flows[(what - MOST) * TIMES + earlier] : 0;
        }

        private void push(int spot, int arc, int many) {
            int node = spot / TIMES;
            int time = spot % TIMES;
            if (arc == touches[node]) {
                waits[spot] += many;
                return;
            }
            if (arc > touches[node]) {
                if (time > 0) {
                    waits[spot - 1] -= many;
                }
                return;
            }
            int what = touching[node * 2 * MOST + arc];
            if (what < MOST) {
                flows[what * TIMES + time] += many;
                return;
            }
            int earlier = time - times[what - MOST];
            if (earlier >= 0) {
                flows[(what - MOST) * TIMES + earlier] -= many;
            }
        }
    }
}
