/** Promise 36: shares that hang on one another. */
public final class ShareTest {
    public static void main(String[] args) {
        plain();
        hanging();
        noAnswer();
        negative();
        kept();
        Check.end();
    }

    /** A house that has taken so much, up to 999990. */
    private static StageHouse taken(int amount) {
        StageHouse x = new StageHouse();
        x.row(0, 0, 1);
        Check.rules(x, "day 0: % 0; day 0: + " + Math.min(99999, amount) + ";");
        x.ask(0, 0, 1, 0, 0, 9);
        x.pay(0, Math.min(99999, amount));
        Check.due("taken", x.told(0), amount);
        return x;
    }

    private static void due(StageHouse x, int p, long whole, long top, long under) {
        Check.due("whole of " + p, x.share(p, 0), whole);
        Check.due("numerator of " + p, x.share(p, 1), top);
        Check.due("denominator of " + p, x.share(p, 2), under);
        Check.due("answer of " + p, x.share(p, 3), 1);
    }

    private static void plain() {
        StageHouse x = taken(1001);
        Check.due("text", Check.shares(x, "0: 50 % of taken; 2: 7 + 3 + 5 % of taken + 20 % of taken;"), 2);
        due(x, 0, 500, 1, 2);
        due(x, 1, 0, 0, 1);
        due(x, 2, 260, 1, 4);
        Check.due("party 3", x.share(3, 0), -1);
        Check.due("party below", x.share(-1, 0), -1);
        Check.due("what 4", x.share(0, 4), -1);
        Check.due("what below", x.share(0, -1), -1);
        x.back(0, 0);
        due(x, 0, 0, 0, 1);
        due(x, 2, 10, 0, 1);
    }

    /** x = 60 + y / 10, y = 40 + x / 4 + 100 by hand: x = 74 / (39 / 40), y = 155 / (39 / 40). */
    private static void hanging() {
        StageHouse x = taken(100);
        Check.shares(x, "0: 60 % of taken + 10 % of 1; 1: 40 % of taken + 25 % of 0 + 100; 2: 50 % of 0 + 7;");
        due(x, 0, 75, 35, 39);
        due(x, 1, 158, 38, 39);
        due(x, 2, 44, 37, 39);
        Check.shares(x, "0: 50 % of 0 + 3;");
        due(x, 0, 6, 0, 1);
        Check.shares(x, "0: 50 % of 1 + 50 % of 1 + 1; 1: 99 % of 0;");
        due(x, 0, 100, 0, 1);
        due(x, 1, 99, 0, 1);
    }

    private static void noAnswer() {
        StageHouse x = taken(10);
        String[] texts = {"0: 100 % of 0;", "0: 100 % of 0 + 1;", "0: 100 % of 1; 1: 100 % of 0;",
            "0: 100 % of 1 + 5; 1: 100 % of 0;", "0: 100 % of 1; 1: 100 % of 2; 2: 100 % of 0; ", "2: 50 % of 2 + 50 % of 2;"};
        for (String text : texts) {
            Check.shares(x, text);
            for (int p = 0; p < 3; p++) {
                for (int what = 0; what < 4; what++) {
                    Check.due(text + " " + p + " " + what, x.share(p, what), 0);
                }
            }
            Check.due("party 3 without one", x.share(3, 0), -1);
            Check.due("what 4 without one", x.share(0, 4), -1);
        }
    }

    /** x = 2 x + 1 is met by -1; x = 7 x / 4 + 1 by -4 / 3, whose whole part is -2. */
    private static void negative() {
        StageHouse x = taken(10);
        Check.shares(x, "0: 100 % of 0 + 100 % of 0 + 1;");
        due(x, 0, -1, 0, 1);
        Check.shares(x, "1: 100 % of 1 + 75 % of 1 + 1;");
        due(x, 1, -2, 2, 3);
    }

    private static void kept() {
        StageHouse x = taken(10);
        Check.shares(x, "0: 5; 1: 6;");
        Check.due("a fault", Check.shares(x, "0: 7; 0"), -16);
        due(x, 0, 5, 0, 1);
        due(x, 1, 6, 0, 1);
        Check.due("none", Check.shares(x, ""), 0);
        due(x, 0, 0, 0, 1);
        Check.due("answer", x.share(1, 3), 1);
    }
}
