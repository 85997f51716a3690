/** What the project's tests share: counting wrong answers, and texts told as the numbers of feed(). */
final class Check {
    private static final int PROMISES = 40;
    private static final int[] ASKED_OF = new int[PROMISES + 1];
    private static int wrong = 0;
    private static int asked = 0;
    private static int promise = 0;

    private Check() {
    }

    /** What is asked from now on is of this promise; its number is printed ahead of a wrong answer. */
    static void promise(int number) {
        promise = number;
    }

    static void due(String what, long got, long want) {
        asked++;
        ASKED_OF[promise]++;
        if (got != want) {
            wrong++;
            System.out.println((promise > 0 ? "promise " + promise + ": " : "") + what + " answered " + got + ", due is " + want);
        }
    }

    static void same(String what, String got, String want) {
        due(what, got.equals(want) ? 1 : 0, 1);
        if (!got.equals(want)) {
            System.out.println("  it is  " + got + "\n  due is " + want);
        }
    }

    /** No promise may be without a test. */
    static void eachPromise() {
        for (int number = 1; number <= PROMISES; number++) {
            promise = number;
            yes("is asked for", ASKED_OF[number] > 0);
        }
        promise = 0;
    }

    static void yes(String what, boolean got) {
        due(what, got ? 1 : 0, 1);
    }

    static void no(String what, boolean got) {
        due(what, got ? 1 : 0, 0);
    }

    static void end() {
        if (wrong > 0) {
            System.out.println(wrong + " of " + asked + " answers are not as due");
            System.exit(1);
        }
        System.out.println(asked + " answers are as due");
    }

    /** The text comes behind the tape. */
    static void text(StageHouse x, String text) {
        int length = 0;
        for (int at = 0; at < text.length(); at += 20) {
            length = x.feed(four(text, at), four(text, at + 4), four(text, at + 8), four(text, at + 12), four(text, at + 16));
        }
        int over = (20 - text.length() % 20) % 20;
        if (over > 0) {
            x.cut(length - over);
        }
    }

    private static int four(String text, int at) {
        int sum = 0;
        for (int i = at; i < at + 4; i++) {
            sum = sum << 8 | (i < text.length() ? text.charAt(i) & 255 : 0);
        }
        return sum;
    }

    static int list(StageHouse x, int l, String text) {
        text(x, text);
        return x.list(l);
    }

    static int lock(StageHouse x, int n, String text) {
        text(x, text);
        return x.lock(n);
    }

    static int rules(StageHouse x, String text) {
        text(x, text);
        return x.rules();
    }

    static int shares(StageHouse x, String text) {
        text(x, text);
        return x.shares();
    }

    /** The mark '^' is where the fault is due; it is taken out of the text itself. */
    static void faultyList(String marked, int fault) {
        StageHouse x = new StageHouse();
        due("list: " + marked, list(x, 0, marked.replace("^", "")), -10 - marked.indexOf('^'));
        due("fault of list: " + marked, x.fault(), fault);
        due("cues behind: " + marked, x.of(0, 5), 0);
    }

    static void faultyLock(String marked, int fault) {
        StageHouse x = new StageHouse();
        due("lock: " + marked, lock(x, 0, marked.replace("^", "")), -10 - marked.indexOf('^'));
        due("fault of lock: " + marked, x.fault(), fault);
        due("lock stays true behind: " + marked, x.axisAt(0, 6), 1);
    }

    static void faultyRules(String marked, int fault) {
        StageHouse x = new StageHouse();
        due("rules: " + marked, rules(x, marked.replace("^", "")), -10 - marked.indexOf('^'));
        due("fault of rules: " + marked, x.fault(), fault);
    }

    static void faultyShares(String marked, int fault) {
        StageHouse x = new StageHouse();
        due("shares: " + marked, shares(x, marked.replace("^", "")), -10 - marked.indexOf('^'));
        due("fault of shares: " + marked, x.fault(), fault);
    }

    static String many(String part, int times) {
        StringBuilder b = new StringBuilder();
        for (int i = 0; i < times; i++) {
            b.append(part);
        }
        return b.toString();
    }
}
