/** Promises 29 and 30 of prices, 32, 33, 35 and 36: tickets, what is told of them, and shares. */
final class MoneyEdges {
    private static final int LEAST = Integer.MIN_VALUE;
    private static final int MOST = Integer.MAX_VALUE;

    private MoneyEdges() {
    }

    static void run() {
        Check.promise(29);
        conditionEdges();
        changeEdges();
        million();
        twentyRules();
        Check.promise(30);
        payNone();
        payEnds();
        payByRulesNow();
        manyTickets();
        Check.promise(32);
        backNone();
        backOnce();
        Check.promise(33);
        enterNone();
        Check.promise(35);
        toldNone();
        toldEach();
        refusedOfAll();
        Check.promise(36);
        shareNone();
        shareRests();
        shareNoAnswer();
        shareBelowZero();
        shareTerms();
        shareOfTaken();
    }

    /** A hold of n seats at 10 each, in section s, of a kind on a day. */
    private static StageHouse held(int s, int n, int kind, int day) {
        StageHouse x = new StageHouse();
        x.section(s, 10);
        x.row(0, s, 10);
        x.ask(0, s, n, kind, day, 9);
        return x;
    }

    private static void price(StageHouse x, String rules, int want) {
        Check.rules(x, rules);
        Check.due(rules + " of what is held", x.hold(0, 3), want);
    }

    private static void conditionEdges() {
        for (int n = 1; n <= 10; n++) {
            StageHouse x = held(0, n, 0, 0);
            for (int many = 1; many <= 10; many++) {
                price(x, "many " + many + ": + 1;", 10 * n + (n >= many ? 1 : 0));
            }
        }
        for (int is = 0; is < 8; is++) {
            StageHouse x = held(is, 1, Math.min(is, 3), Math.min(is, 6));
            for (int of = 0; of < 8; of++) {
                price(x, "section " + of + ": + 1;", is == of ? 11 : 10);
                if (of < 7) {
                    price(x, "day " + of + ": + 1;", Math.min(is, 6) == of ? 11 : 10);
                }
                if (of < 4) {
                    price(x, "kind " + of + ": + 1;", Math.min(is, 3) == of ? 11 : 10);
                }
            }
        }
        StageHouse y = held(7, 5, 3, 6);
        price(y, "many 5, kind 3, day 6, section 7: - 1;", 49);
        price(y, "many 6, kind 3, day 6, section 7: - 1;", 50);
        price(y, "many 5, kind 2, day 6, section 7: - 1;", 50);
        price(y, "many 5, kind 3, day 5, section 7: - 1;", 50);
        price(y, "many 5, kind 3, day 6, section 6: - 1;", 50);
        price(y, "many 1, many 6: - 1;", 50);
        price(y, "many 6, many 1: - 1;", 50);
        price(y, "many 5, many 5: - 1;", 49);
        price(y, "day 6, day 5: - 1;", 50);
        price(y, "day 6, day 6: - 1;", 49);
    }

    private static void changeEdges() {
        StageHouse x = held(0, 1, 0, 0);
        price(x, "day 0: % 0;", 0);
        price(x, "day 0: % 100;", 10);
        price(x, "day 0: % 200;", 20);
        price(x, "day 0: % 4;", 0);
        price(x, "day 0: % 5;", 1);
        price(x, "day 0: % 14;", 1);
        price(x, "day 0: % 15;", 2);
        price(x, "day 0: - 0;", 10);
        price(x, "day 0: - 9;", 1);
        price(x, "day 0: - 10;", 0);
        price(x, "day 0: - 11;", 0);
        price(x, "day 0: - 99999; day 0: + 3;", 3);
        price(x, "day 0: + 0;", 10);
        price(x, "day 0: + 99999;", 100009);
        price(x, "day 0: @ 0;", 0);
        price(x, "day 0: @ 99999;", 99999);
        StageHouse ten = held(0, 10, 0, 0);
        price(ten, "day 0: @ 0;", 0);
        price(ten, "day 0: @ 1;", 10);
        price(ten, "day 0: @ 99999;", 999990);
        price(ten, "day 0: - 1; day 0: % 50; day 0: + 1; day 0: % 10;", 5);
    }

    /** Above 1000000 it is that, behind each rule. */
    private static void million() {
        StageHouse x = held(0, 10, 0, 0);
        price(x, "day 0: @ 99999; day 0: + 9;", 999999);
        price(x, "day 0: @ 99999; day 0: + 10;", 1000000);
        price(x, "day 0: @ 99999; day 0: + 11;", 1000000);
        price(x, "day 0: @ 99999; day 0: + 11; day 0: - 1;", 999999);
        price(x, "day 0: @ 50000; day 0: % 200;", 1000000);
        price(x, "day 0: @ 50001; day 0: % 200;", 1000000);
        price(x, "day 0: @ 50001; day 0: % 200; day 0: % 50;", 500000);
        price(x, "day 0: @ 99999; day 0: % 200; day 0: % 200; day 0: % 200; day 0: % 1;", 10000);
        x.section(0, 99999);
        price(x, "", 999990);
        price(x, "day 0: + 99999; day 0: - 99999;", 900001);
    }

    private static void twentyRules() {
        StageHouse x = held(0, 1, 0, 0);
        price(x, Check.many("day 0:+1;", 19), 29);
        price(x, Check.many("day 0:+1;", 20), 30);
        price(x, Check.many("day 1:+1;", 19) + "day 0:+1;", 11);
        price(x, "day 0:+1;" + Check.many("day 1:+1;", 19), 11);
        price(x, "", 10);
    }

    private static void payNone() {
        StageHouse x = held(0, 2, 0, 0);
        int[] none = {-1, 1, 59, 60, LEAST, MOST};
        for (int h : none) {
            Check.due("hold " + h, x.pay(h, 20), -1);
        }
        int[] amounts = {19, 21, 0, -20, LEAST, MOST};
        for (int amount : amounts) {
            Check.due("amount " + amount, x.pay(0, amount), -1);
        }
        Check.due("nothing was taken", x.told(0), 0);
        Check.due("no ticket", x.told(1), 0);
        Check.due("held yet", x.seat(0, 4), 1);
        Check.due("a hold yet", x.hold(0, 2), 2);
        Check.due("with just its price", x.pay(0, 20), 0);
        Check.due("once", x.pay(0, 20), -1);
        Check.due("a ticket", x.told(1), 1);
        x.ask(0, 0, 2, 0, 0, 9);
        x.tick(9);
        Check.due("over", x.pay(0, 20), -1);
        Check.due("one ticket yet", x.told(1), 1);
    }

    private static void payEnds() {
        StageHouse x = held(0, 10, 0, 0);
        Check.rules(x, "day 0: % 0;");
        Check.due("not 1 for 0", x.pay(0, 1), -1);
        Check.due("not -1 for 0", x.pay(0, -1), -1);
        Check.due("0 for 0", x.pay(0, 0), 0);
        Check.due("nothing taken", x.told(0), 0);
        Check.due("sold all the same", x.told(2), 10);
        x.back(0, 0);
        Check.rules(x, "day 0: @ 99999; day 0: + 99999;");
        x.ask(0, 0, 10, 0, 0, 19);
        Check.due("not above a million", x.pay(0, 1099989), -1);
        Check.due("a million", x.pay(0, 1000000), 1);
        Check.due("taken", x.told(0), 1000000);
    }

    private static void payByRulesNow() {
        StageHouse x = held(0, 2, 1, 2);
        Check.rules(x, "kind 1: - 5;");
        Check.due("the price when it was asked", x.pay(0, 20), -1);
        x.section(0, 20);
        Check.due("the old section's price", x.pay(0, 15), -1);
        Check.due("the price now", x.pay(0, 35), 0);
        Check.rules(x, "");
        Check.due("what was paid", x.back(0, 0), 35);
    }

    /** As many tickets as 512 calls can bring: numbers go on, given back or not. */
    private static void manyTickets() {
        StageHouse x = new StageHouse();
        x.section(0, 4);
        x.row(0, 0, 1);
        for (int t = 0; t < 150; t++) {
            x.ask(0, 0, 1, 0, 0, 9);
            Check.due("ticket " + t, x.pay(0, 4), t);
            Check.due("given back", x.back(t % 4, t), 4);
        }
        Check.due("none of them is left", x.told(1), 0);
        Check.due("nothing taken", x.told(0), 0);
        Check.due("the last is given back", x.back(0, 149), -1);
        Check.due("no more", x.back(0, 150), -1);
        StageHouse y = new StageHouse();
        y.section(0, 4);
        for (int r = 0; r < 9; r++) {
            y.row(r, 0, 30);
        }
        for (int t = 0; t < 240; t++) {
            y.ask(0, 0, 1, 0, 0, 9);
            Check.due("ticket " + t, y.pay(0, 4), t);
        }
        Check.due("tickets", y.told(1), 240);
        Check.due("taken", y.told(0), 960);
        Check.due("the last enters", y.enter(239), 1);
        Check.due("none behind", y.enter(240), -1);
    }

    private static void backNone() {
        StageHouse x = held(0, 2, 0, 0);
        Check.due("no ticket yet", x.back(0, 0), -1);
        x.pay(0, 20);
        int[] none = {-1, 1, 299, 300, LEAST, MOST};
        for (int t : none) {
            Check.due("ticket " + t, x.back(0, t), -1);
        }
        int[] noDesk = {-1, 4, LEAST, MOST};
        for (int desk : noDesk) {
            Check.due("desk " + desk, x.back(desk, 0), -1);
        }
        for (int desk = 0; desk < 4; desk++) {
            x.line(desk, false);
            Check.due("line of " + desk + " is cut", x.back(desk, 0), -1);
        }
        Check.due("taken yet", x.told(0), 20);
        Check.due("a ticket yet", x.told(1), 1);
        Check.due("sold yet", x.seat(0, 4), 2);
        x.line(3, true);
        Check.due("cut at the others", x.back(2, 0), -1);
        Check.due("up at the last desk", x.back(3, 0), 20);
    }

    private static void backOnce() {
        StageHouse x = held(0, 2, 0, 0);
        x.ask(0, 0, 3, 0, 0, 9);
        x.pay(0, 20);
        x.pay(1, 30);
        Check.due("given back", x.back(0, 0), 20);
        Check.due("already", x.back(0, 0), -1);
        Check.due("taken", x.told(0), 30);
        Check.due("sold", x.told(2), 3);
        Check.due("tickets", x.told(1), 1);
        Check.due("does not enter", x.enter(0), -1);
        Check.due("enters", x.enter(1), 3);
        Check.due("it entered", x.back(0, 1), -1);
        Check.due("taken yet", x.told(0), 30);
        Check.due("sold yet", x.told(2), 3);
        Check.due("free again", x.seat(0, 4), 0);
    }

    private static void enterNone() {
        StageHouse x = held(0, 10, 0, 0);
        Check.due("no ticket yet", x.enter(0), -1);
        x.pay(0, 100);
        int[] none = {-1, 1, 299, 300, LEAST, MOST};
        for (int t : none) {
            Check.due("ticket " + t, x.enter(t), -1);
        }
        Check.due("none entered", x.told(4), 0);
        Check.due("all ten", x.enter(0), 10);
        Check.due("already", x.enter(0), -1);
        Check.due("ten entered", x.told(4), 10);
        x.row(1, 0, 1);
        x.ask(0, 0, 1, 0, 0, 9);
        x.pay(0, 10);
        x.back(0, 1);
        Check.due("given back", x.enter(1), -1);
        Check.due("ten yet", x.told(4), 10);
    }

    private static void toldNone() {
        StageHouse x = new StageHouse();
        int[] none = {-1, 8, LEAST, MOST};
        for (int what : none) {
            Check.due("what " + what, x.told(what), -1);
        }
    }

    private static void toldEach() {
        StageHouse x = held(0, 2, 0, 0);
        x.ask(0, 0, 3, 0, 0, 9);
        x.ask(0, 0, 1, 0, 0, 9);
        told(x, new int[] {0, 0, 0, 3, 0, 0, 0, 0});
        x.pay(0, 20);
        x.pay(1, 30);
        told(x, new int[] {50, 2, 5, 1, 0, 0, 0, 0});
        x.enter(0);
        told(x, new int[] {50, 2, 5, 1, 2, 0, 0, 0});
        x.back(0, 1);
        told(x, new int[] {20, 1, 2, 1, 2, 0, 0, 0});
        x.stop(true);
        x.tick(9);
        told(x, new int[] {20, 1, 2, 0, 2, 9, 0, 1});
        x.to(0, 0);
        x.stop(false);
        told(x, new int[] {20, 1, 2, 0, 2, 9, 1, 0});
    }

    private static void told(StageHouse x, int[] want) {
        for (int what = 0; what < 8; what++) {
            Check.due("told " + what, x.told(what), want[what]);
        }
    }

    private static void refusedOfAll() {
        StageHouse x = new StageHouse();
        for (int n = -1; n <= 8; n++) {
            x.to(n, 5);
            Check.due("refused up to " + n, x.told(6), Math.max(0, Math.min(8, n + 1)));
        }
        x.axis(7, 0, 3, 1, 1);
        Check.due("as they are", x.told(6), 8);
        x.to(7, 4);
        Check.due("one more", x.told(6), 9);
        x.to(7, 3);
        Check.due("not refused", x.told(6), 9);
    }

    private static void shareNone() {
        StageHouse x = new StageHouse();
        Check.shares(x, "0: 100 % of 0;");
        shareNumbers(x, 0);
        Check.shares(x, "0: 7; 1: 7; 2: 7;");
        shareNumbers(x, 7);
    }

    private static void shareNumbers(StageHouse x, int whole) {
        int[] none = {-1, 3, LEAST, MOST};
        int[] noWhat = {-1, 4, LEAST, MOST};
        for (int p : none) {
            for (int what = 0; what < 4; what++) {
                Check.due("party " + p, x.share(p, what), -1);
            }
        }
        for (int p = 0; p < 3; p++) {
            for (int what : noWhat) {
                Check.due("what " + what, x.share(p, what), -1);
            }
            Check.due("party " + p, x.share(p, 0), whole);
        }
    }

    private static void due(StageHouse x, int p, long whole, long top, long under) {
        Check.due("whole of " + p, x.share(p, 0), whole);
        Check.due("numerator of " + p, x.share(p, 1), top);
        Check.due("denominator of " + p, x.share(p, 2), under);
        Check.due("an answer for " + p, x.share(p, 3), 1);
    }

    private static void shareRests() {
        StageHouse x = new StageHouse();
        Check.shares(x, "0: 1 % of 1; 1: 100; 2: 1 % of 1 + 99999;");
        due(x, 0, 1, 0, 1);
        due(x, 1, 100, 0, 1);
        due(x, 2, 100000, 0, 1);
        Check.shares(x, "0: 1 % of 1; 1: 99; 2: 50 % of 1;");
        due(x, 0, 0, 99, 100);
        due(x, 2, 49, 1, 2);
        Check.shares(x, "0: 1 % of 1; 1: 1 % of 2; 2: 1 % of 2 + 1;");
        due(x, 0, 0, 1, 9900);
        due(x, 1, 0, 1, 99);
        due(x, 2, 1, 1, 99);
        Check.shares(x, "");
        for (int p = 0; p < 3; p++) {
            due(x, p, 0, 0, 1);
        }
        Check.shares(x, "1: 0;");
        for (int p = 0; p < 3; p++) {
            due(x, p, 0, 0, 1);
        }
    }

    /** None, or more than one: then no party has an answer, whether it hangs on the others or not. */
    private static void shareNoAnswer() {
        String[] texts = {"0: 100 % of 0;", "0: 100 % of 0 + 1; 1: 5;", "1: 100 % of 1; 0: 5;", "2: 100 % of 2 + 1; 0: 5;",
            "0: 100 % of 1; 1: 100 % of 0;", "0: 100 % of 1 + 1; 1: 100 % of 0;", "0: 100 % of 2; 2: 100 % of 0; 1: 5;",
            "1: 100 % of 2; 2: 100 % of 1;", "0: 100 % of 1; 1: 100 % of 2; 2: 100 % of 0;",
            "0: 100 % of 1; 1: 100 % of 2; 2: 100 % of 0 + 1;", "0: 50 % of 0 + 50 % of 0;", "0: 50 % of 0 + 50 % of 1; 1: 100 % of 0;"};
        StageHouse x = new StageHouse();
        for (String text : texts) {
            Check.yes("no fault: " + text, Check.shares(x, text) > 0);
            for (int p = 0; p < 3; p++) {
                for (int what = 0; what < 4; what++) {
                    Check.due(text + " party " + p + " what " + what, x.share(p, what), 0);
                }
            }
        }
        Check.shares(x, "0: 99 % of 0 + 1;");
        due(x, 0, 100, 0, 1);
        Check.shares(x, "0: 100 % of 0 + 1 % of 0 + 1;");
        due(x, 0, -100, 0, 1);
        Check.shares(x, "0: 99 % of 1 + 1; 1: 100 % of 0;");
        due(x, 0, 100, 0, 1);
        due(x, 1, 100, 0, 1);
    }

    /** The whole part is the one below: the rest is not below 0. */
    private static void shareBelowZero() {
        StageHouse x = new StageHouse();
        Check.shares(x, "0: 100 % of 0 + 100 % of 0 + 100 % of 0 + 1;");
        due(x, 0, -1, 1, 2);
        Check.shares(x, "1: 100 % of 1 + 100 % of 1 + 100 % of 1 + 2; 0: 50 % of 1;");
        due(x, 1, -1, 0, 1);
        due(x, 0, -1, 1, 2);
        Check.shares(x, "2: 100 % of 2 + 75 % of 2 + 1;");
        due(x, 2, -2, 2, 3);
        due(x, 0, 0, 0, 1);
    }

    private static void shareTerms() {
        StageHouse x = new StageHouse();
        Check.shares(x, "0: 1 + 2 + 3 + 4; 1: 99999 + 99999 + 99999 + 99999; 2: 100 % of 0 + 100 % of 0 + 100 % of 0 + 100 % of 0;");
        due(x, 0, 10, 0, 1);
        due(x, 1, 399996, 0, 1);
        due(x, 2, 40, 0, 1);
        Check.shares(x, "0: 0 % of 1 + 0 % of taken + 0 + 0 % of 0; 1: 5;");
        due(x, 0, 0, 0, 1);
        due(x, 1, 5, 0, 1);
    }

    /** By hand: 97 times 89 times 83 less 1 is 716538, which has no part in common with 1, 97, 97 times 89. */
    private static void leastNumbers() {
        StageHouse x = new StageHouse();
        x.section(0, 1);
        x.row(0, 0, 1);
        x.ask(0, 0, 1, 0, 0, 9);
        x.pay(0, 1);
        Check.shares(x, "0: 3 % of 0 + 1 % of 1; 1: 11 % of 1 + 1 % of 2; 2: 17 % of 2 + 1 % of 0 + 1 % of taken;");
        due(x, 0, 0, 1, 716538);
        due(x, 1, 0, 97, 716538);
        due(x, 2, 0, 8633, 716538);
    }

    private static void shareOfTaken() {
        StageHouse x = new StageHouse();
        Check.rules(x, "day 0: @ 99999; day 0: + 99999;");
        for (int r = 0; r < 40; r++) {
            x.row(r, 0, 30);
        }
        for (int t = 0; t < 120; t++) {
            x.ask(0, 0, 10, 0, 0, 9);
            x.pay(0, 1000000);
        }
        int taken = x.told(0);
        Check.due("all that the rows can bring", taken, 120000000);
        Check.due("all seats", x.told(2), 1200);
        Check.shares(x, "0: 100 % of taken; 1: 100 % of taken + 100 % of taken + 100 % of taken + 100 % of taken; 2: 1 % of taken + 99 % of 2;");
        due(x, 0, taken, 0, 1);
        due(x, 1, 4L * taken, 0, 1);
        due(x, 2, taken, 0, 1);
        Check.shares(x, "0: 100 % of taken + 99 % of 0; 1: 100 % of 0 + 99 % of 1; 2: 100 % of 1 + 99 % of 2;");
        due(x, 0, 100L * taken, 0, 1);
        due(x, 1, 10000L * taken, 0, 1);
        due(x, 2, 1000000L * taken, 0, 1);
        leastNumbers();
        StageHouse y = held(0, 1, 0, 0);
        Check.shares(y, "0: 100 % of taken;");
        due(y, 0, 0, 0, 1);
        y.pay(0, 10);
        due(y, 0, 10, 0, 1);
        y.back(0, 0);
        due(y, 0, 0, 0, 1);
    }
}
