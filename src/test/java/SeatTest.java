/** Promises 25 to 35, and holds of 24: sections, rows, lines, asking, paying, giving back. */
public final class SeatTest {
    public static void main(String[] args) {
        sections();
        rows();
        lines();
        asking();
        refusing();
        lone();
        nearest();
        owners();
        holds();
        expiring();
        sixtyHolds();
        prices();
        priceChanges();
        paying();
        threeHundred();
        giving();
        backing();
        entering();
        telling();
        Check.end();
    }

    private static void sections() {
        StageHouse x = new StageHouse();
        Check.no("section 8", x.section(8, 1));
        Check.no("section below", x.section(-1, 1));
        Check.no("price below", x.section(0, -1));
        Check.no("price above", x.section(0, 100000));
        Check.yes("least", x.section(0, 0));
        Check.yes("greatest", x.section(7, 99999));
        x.row(0, 7, 3);
        x.ask(0, 7, 3, 0, 0, 9);
        Check.due("its price", x.hold(0, 3), 299997);
        x.section(7, 5);
        Check.due("its price now", x.hold(0, 3), 15);
        x.section(7, 100000);
        Check.due("stays", x.hold(0, 3), 15);
    }

    private static void rows() {
        StageHouse x = new StageHouse();
        Check.no("row 40", x.row(40, 0, 1));
        Check.no("row below", x.row(-1, 0, 1));
        Check.no("section 8", x.row(0, 8, 1));
        Check.no("section below", x.row(0, -1, 1));
        Check.no("no seats", x.row(0, 0, 0));
        Check.no("31 seats", x.row(0, 0, 31));
        Check.due("no row yet", x.seat(0, 0), -1);
        Check.yes("last row", x.row(39, 7, 30));
        Check.due("last seat", x.seat(39, 29), 0);
        Check.due("none behind", x.seat(39, 30), -1);
        Check.yes("anew", x.row(39, 1, 2));
        Check.due("shorter", x.seat(39, 2), -1);
        Check.due("in section 1", x.ask(0, 1, 1, 0, 0, 9), 0);
        Check.no("one is held", x.row(39, 0, 5));
        x.pay(0, 0);
        Check.no("one is sold", x.row(39, 0, 5));
        Check.due("as it was", x.seat(39, 2), -1);
        x.back(0, 0);
        Check.yes("free again", x.row(39, 0, 5));
        Check.due("longer", x.seat(39, 4), 0);
        Check.due("not of section 1 now", x.ask(0, 1, 1, 0, 0, 9), -1);
    }

    private static void lines() {
        StageHouse x = new StageHouse();
        Check.no("desk 4", x.line(4, false));
        Check.no("desk below", x.line(-1, true));
        Check.yes("cut", x.line(3, false));
        Check.yes("cut again", x.line(3, false));
        Check.yes("up", x.line(3, true));
        x.row(0, 0, 4);
        Check.due("all of them", x.ask(3, 0, 4, 0, 0, 9), 0);
    }

    private static void asking() {
        StageHouse x = new StageHouse();
        x.row(2, 1, 10);
        x.row(3, 1, 10);
        x.row(0, 2, 10);
        Check.due("a hold", x.ask(0, 1, 4, 2, 3, 50), 0);
        Check.due("row", x.hold(0, 0), 2);
        Check.due("the middle", x.hold(0, 1), 3);
        Check.due("many", x.hold(0, 2), 4);
        Check.due("till", x.hold(0, 4), 50);
        Check.due("held", x.seat(2, 3), 1);
        Check.due("held", x.seat(2, 6), 1);
        Check.due("free", x.seat(2, 2), 0);
        Check.due("free", x.seat(2, 7), 0);
        Check.due("3 more", x.ask(0, 1, 3, 0, 0, 50), 1);
        Check.due("10 in row 3 is less than 13 in row 2", x.hold(1, 0), 3);
        Check.due("the left of two alike", x.hold(1, 1), 3);
        Check.due("4 more", x.ask(0, 1, 4, 0, 0, 50), 2);
        Check.due("row 3", x.hold(2, 0), 3);
        Check.due("at its end", x.hold(2, 1), 6);
        Check.due("10 do not fit", x.ask(0, 1, 10, 0, 0, 50), -1);
        Check.due("10 in section 2", x.ask(0, 2, 10, 0, 0, 50), 3);
        Check.due("full", x.ask(0, 2, 1, 0, 0, 50), -1);
    }

    private static void refusing() {
        StageHouse x = new StageHouse();
        x.row(0, 0, 30);
        x.tick(5);
        Check.due("desk 4", x.ask(4, 0, 1, 0, 0, 9), -1);
        Check.due("desk below", x.ask(-1, 0, 1, 0, 0, 9), -1);
        Check.due("section 8", x.ask(0, 8, 1, 0, 0, 9), -1);
        Check.due("section below", x.ask(0, -1, 1, 0, 0, 9), -1);
        Check.due("0 seats", x.ask(0, 0, 0, 0, 0, 9), -1);
        Check.due("11 seats", x.ask(0, 0, 11, 0, 0, 9), -1);
        Check.due("kind 4", x.ask(0, 0, 1, 4, 0, 9), -1);
        Check.due("kind below", x.ask(0, 0, 1, -1, 0, 9), -1);
        Check.due("day 7", x.ask(0, 0, 1, 0, 7, 9), -1);
        Check.due("day below", x.ask(0, 0, 1, 0, -1, 9), -1);
        Check.due("now", x.ask(0, 0, 1, 0, 0, 5), -1);
        Check.due("nothing held", x.told(3), 0);
        Check.due("the next tick", x.ask(3, 0, 10, 3, 6, 6), 0);
        Check.due("the latest tick", x.ask(3, 0, 10, 3, 6, Integer.MAX_VALUE), 1);
        Check.due("other section", x.ask(0, 1, 1, 0, 0, 9), -1);
    }

    /** A row of 5 asked for 2: the middle ones leave lone seats, so the edge that leaves three is best. */
    private static void lone() {
        StageHouse x = new StageHouse();
        x.row(0, 0, 5);
        x.ask(0, 0, 2, 0, 0, 9);
        Check.due("at the edge", x.hold(0, 1), 0);
        StageHouse y = new StageHouse();
        y.row(0, 0, 4);
        y.row(9, 0, 3);
        y.ask(0, 0, 3, 0, 0, 9);
        Check.due("a far row without lone ones", y.hold(0, 0), 9);
        y.ask(0, 0, 3, 0, 0, 9);
        Check.due("else with one", y.hold(1, 0), 0);
        Check.due("the least seat", y.hold(1, 1), 0);
        StageHouse z = new StageHouse();
        z.row(0, 0, 3);
        z.row(1, 0, 4);
        z.ask(0, 0, 1, 0, 0, 9);
        Check.due("0 leaves two behind it", z.hold(0, 1), 0);
        Check.due("of row 0", z.hold(0, 0), 0);
        StageHouse w = new StageHouse();
        w.row(1, 0, 6);
        w.line(3, false);
        w.ask(0, 0, 2, 0, 0, 9);
        Check.due("a seat that may not be taken is free all the same", w.hold(0, 1), 0);
        Check.due("2 is of desk 3, 3 would leave it lone, 4 would leave 5 lone", w.ask(0, 0, 1, 0, 0, 9), 1);
        Check.due("so 5", w.hold(1, 1), 5);
    }

    private static void nearest() {
        StageHouse x = new StageHouse();
        x.row(0, 0, 30);
        x.row(1, 0, 30);
        x.ask(0, 0, 2, 0, 0, 9);
        Check.due("the very middle", x.hold(0, 1), 14);
        x.ask(0, 0, 2, 0, 0, 9);
        Check.due("row 1 costs 3, the neighbours 4", x.hold(1, 0), 1);
        x.ask(0, 0, 2, 0, 0, 9);
        Check.due("row 0, 4 away, the left one", x.hold(2, 0), 0);
        Check.due("12", x.hold(2, 1), 12);
        x.ask(0, 0, 2, 0, 0, 9);
        Check.due("row 0, 4 away, the right one", x.hold(3, 0), 0);
        Check.due("16", x.hold(3, 1), 16);
        StageHouse y = new StageHouse();
        y.row(0, 0, 10);
        y.row(1, 0, 7);
        y.row(2, 0, 10);
        y.ask(0, 0, 10, 0, 0, 9);
        y.ask(0, 0, 1, 0, 0, 9);
        Check.due("3 and 0", y.hold(1, 0), 1);
        Check.due("the middle of 7", y.hold(1, 1), 3);
    }

    private static void owners() {
        StageHouse x = new StageHouse();
        x.row(1, 0, 8);
        x.line(2, false);
        Check.due("own seats alone: no two", x.ask(2, 0, 2, 0, 0, 9), -1);
        Check.due("one", x.ask(2, 0, 1, 0, 0, 9), 0);
        Check.due("(1 + 5) modulo 4 is 2, and 1 leaves a lone one", x.hold(0, 1), 5);
        Check.due("the other", x.ask(2, 0, 1, 0, 0, 9), 1);
        Check.due("seat 1", x.hold(1, 1), 1);
        Check.due("no more", x.ask(2, 0, 1, 0, 0, 9), -1);
        Check.due("2, 3, 4 are left in one", x.ask(0, 0, 3, 0, 0, 9), 2);
        Check.due("first", x.hold(2, 1), 2);
        x.give(0);
        x.give(1);
        x.give(2);
        Check.due("not those of a cut desk", x.ask(0, 0, 4, 0, 0, 9), -1);
        Check.due("3 between them", x.ask(0, 0, 3, 0, 0, 9), 0);
        Check.due("2 .. 4", x.hold(0, 1), 2);
        x.give(0);
        x.line(0, false);
        Check.due("two are cut: none side by side", x.ask(1, 0, 2, 0, 0, 9), -1);
        Check.due("but one", x.ask(1, 0, 1, 0, 0, 9), 0);
        Check.due("of desk 1 or 3, the nearest", x.hold(0, 1), 4);
        x.line(0, true);
        x.line(2, true);
        x.give(0);
        Check.due("all", x.ask(0, 0, 8, 0, 0, 9), 0);
    }

    private static void holds() {
        StageHouse x = new StageHouse();
        x.row(0, 0, 30);
        for (int h = 0; h < 5; h++) {
            Check.due("numbers", x.ask(0, 0, 1, 0, 0, 9), h);
        }
        Check.yes("given up", x.give(3));
        Check.yes("given up", x.give(1));
        Check.due("the least free one", x.ask(0, 0, 1, 0, 0, 9), 1);
        Check.due("then 3", x.ask(0, 0, 1, 0, 0, 9), 3);
        Check.due("then 5", x.ask(0, 0, 1, 0, 0, 9), 5);
        Check.due("no hold 6", x.hold(6, 0), -1);
        Check.due("no hold below", x.hold(-1, 0), -1);
        Check.due("no hold 60", x.hold(60, 0), -1);
        Check.due("no what 5", x.hold(0, 5), -1);
        Check.due("no what below", x.hold(0, -1), -1);
    }

    private static void expiring() {
        StageHouse x = new StageHouse();
        x.row(0, 0, 10);
        x.ask(0, 0, 2, 0, 0, 3);
        x.ask(0, 0, 2, 0, 0, 4);
        x.tick(2);
        Check.due("both", x.told(3), 2);
        x.tick(1);
        Check.due("one is over", x.told(3), 1);
        Check.due("none such", x.hold(0, 0), -1);
        Check.due("none to pay", x.pay(0, 0), -1);
        Check.no("none to give", x.give(0));
        Check.due("free", x.seat(0, 4), 0);
        x.tick(500);
        Check.due("all over", x.told(3), 0);
        Check.due("all free", x.ask(0, 0, 10, 0, 0, 999), 0);
    }

    private static void sixtyHolds() {
        StageHouse x = new StageHouse();
        for (int r = 0; r < 3; r++) {
            x.row(r, 0, 30);
        }
        for (int h = 0; h < 60; h++) {
            Check.due("60 of them", x.ask(0, 0, 1, 0, 0, 9), h);
        }
        Check.due("not 61", x.ask(0, 0, 1, 0, 0, 9), -1);
        Check.due("60", x.told(3), 60);
        x.give(59);
        Check.due("again", x.ask(0, 0, 1, 0, 0, 9), 59);
    }

    private static void prices() {
        StageHouse x = new StageHouse();
        x.section(1, 15);
        x.row(0, 1, 30);
        x.ask(0, 1, 3, 2, 6, 9);
        Check.due("without rules", x.hold(0, 3), 45);
        String[] texts = {"many 3: % 50;", "many 4: % 50;", "kind 2: - 5;", "kind 1: - 5;", "day 6: + 7;", "day 5: + 7;",
            "section 1: @ 4;", "section 2: @ 4;", "many 2, kind 2, day 6, section 1: - 99999;", "kind 2, kind 1: - 1;",
            "many 2, many 4: - 1;", "kind 2, kind 2: - 1;", "kind 2: % 200;", "kind 2: % 0;", "kind 2: % 150;",
            "day 6: % 150; day 6: % 50; kind 2: + 1;", "day 6: @ 10; day 6: - 1; kind 2: % 10;"};
        int[] want = {23, 45, 40, 45, 52, 45, 12, 45, 0, 45, 45, 44, 90, 0, 68, 35, 3};
        for (int i = 0; i < texts.length; i++) {
            Check.rules(x, texts[i]);
            Check.due(texts[i], x.hold(0, 3), want[i]);
        }
        Check.due("a fault", Check.rules(x, "day 6: @ 20; day"), -26);
        Check.due("leaves the rules", x.hold(0, 3), 3);
    }

    private static void priceChanges() {
        StageHouse x = new StageHouse();
        x.section(0, 99999);
        x.row(0, 0, 10);
        x.ask(0, 0, 10, 0, 0, 9);
        Check.due("at first", x.hold(0, 3), 999990);
        Check.rules(x, "day 0: + 99999; day 0: - 1;");
        Check.due("a million behind each rule", x.hold(0, 3), 999999);
        Check.rules(x, "day 0: % 200; day 0: % 50;");
        Check.due("and again", x.hold(0, 3), 500000);
        Check.rules(x, "day 0: @ 99999;");
        Check.due("times ten", x.hold(0, 3), 999990);
        Check.rules(x, "day 0: - 99999; day 0: % 33;");
        Check.due("899991 by 33 is 296997.03", x.hold(0, 3), 296997);
        Check.rules(x, "");
        Check.due("no rules", x.hold(0, 3), 999990);
    }

    private static void paying() {
        StageHouse x = new StageHouse();
        x.section(0, 10);
        x.row(0, 0, 10);
        x.ask(0, 0, 2, 1, 0, 9);
        x.ask(0, 0, 3, 0, 0, 9);
        Check.due("no hold", x.pay(2, 20), -1);
        Check.due("no hold below", x.pay(-1, 20), -1);
        Check.due("no hold 60", x.pay(60, 20), -1);
        Check.due("too little", x.pay(0, 19), -1);
        Check.due("too much", x.pay(0, 21), -1);
        Check.due("ticket 0", x.pay(1, 30), 0);
        Check.due("no hold any more", x.pay(1, 30), -1);
        Check.due("taken", x.told(0), 30);
        Check.rules(x, "kind 1: % 50;");
        Check.due("the old price", x.pay(0, 20), -1);
        Check.due("the new one", x.pay(0, 10), 1);
        Check.due("taken", x.told(0), 40);
        Check.due("sold", x.told(2), 5);
        Check.due("no holds", x.told(3), 0);
        x.tick(20);
        Check.due("sold for good", x.told(2), 5);
        int sold = 0;
        for (int k = 0; k < 10; k++) {
            sold += x.seat(0, k) == 2 ? 1 : 0;
        }
        Check.due("seats sold", sold, 5);
    }

    /** Beyond the 512th call answers are free, so no run that is promised comes so far: here the class just stays sound. */
    private static void threeHundred() {
        StageHouse x = new StageHouse();
        x.row(0, 0, 1);
        for (int t = 0; t < 300; t++) {
            x.ask(0, 0, 1, 0, 0, 9);
            Check.due("tickets", x.pay(0, 0), t);
            Check.due("given back", x.back(0, t), 0);
        }
        Check.due("asks", x.ask(0, 0, 1, 0, 0, 9), 0);
        Check.due("no ticket 300", x.pay(0, 0), -1);
        Check.due("still held", x.seat(0, 0), 1);
        Check.due("none out", x.told(1), 0);
    }

    private static void giving() {
        StageHouse x = new StageHouse();
        x.row(0, 0, 4);
        Check.no("none", x.give(0));
        x.ask(0, 0, 4, 0, 0, 9);
        Check.no("below", x.give(-1));
        Check.no("60", x.give(60));
        Check.yes("given", x.give(0));
        Check.no("once", x.give(0));
        Check.due("free", x.seat(0, 0), 0);
        Check.due("no holds", x.told(3), 0);
    }

    private static void backing() {
        StageHouse x = new StageHouse();
        x.section(0, 7);
        x.row(0, 0, 10);
        x.ask(0, 0, 2, 0, 0, 9);
        x.pay(0, 14);
        x.section(0, 9);
        Check.due("no ticket 1", x.back(0, 1), -1);
        Check.due("no ticket below", x.back(0, -1), -1);
        Check.due("no desk 4", x.back(4, 0), -1);
        Check.due("no desk below", x.back(-1, 0), -1);
        x.line(1, false);
        Check.due("line is cut", x.back(1, 0), -1);
        Check.due("sold yet", x.told(2), 2);
        Check.due("what was paid", x.back(2, 0), 14);
        Check.due("once", x.back(2, 0), -1);
        Check.due("taken", x.told(0), 0);
        Check.due("tickets", x.told(1), 0);
        Check.due("sold", x.told(2), 0);
        Check.due("free", x.seat(0, 4), 0);
        Check.due("does not enter", x.enter(0), -1);
        x.ask(0, 0, 2, 0, 0, 9);
        Check.due("numbers go on", x.pay(0, 18), 1);
    }

    private static void entering() {
        StageHouse x = new StageHouse();
        x.row(0, 0, 10);
        Check.due("none", x.enter(0), -1);
        x.ask(0, 0, 3, 0, 0, 9);
        x.pay(0, 0);
        Check.due("below", x.enter(-1), -1);
        Check.due("above", x.enter(1), -1);
        Check.due("300", x.enter(300), -1);
        Check.due("three", x.enter(0), 3);
        Check.due("once", x.enter(0), -1);
        Check.due("entered", x.told(4), 3);
        Check.due("not back", x.back(0, 0), -1);
        Check.due("tickets", x.told(1), 1);
        Check.due("sold", x.seat(0, 4), 2);
    }

    private static void telling() {
        StageHouse x = new StageHouse();
        for (int what = 0; what <= 7; what++) {
            Check.due("told at first " + what, x.told(what), 0);
        }
        Check.due("told 8", x.told(8), -1);
        Check.due("told below", x.told(-1), -1);
        x.row(3, 0, 5);
        Check.due("row 40", x.seat(40, 0), -1);
        Check.due("row below", x.seat(-1, 0), -1);
        Check.due("seat below", x.seat(3, -1), -1);
        Check.due("seat 5", x.seat(3, 5), -1);
        Check.due("seat 4", x.seat(3, 4), 0);
        x.section(0, 3);
        x.ask(0, 0, 2, 0, 0, 9);
        x.ask(0, 0, 2, 0, 0, 9);
        x.ask(0, 0, 1, 0, 0, 9);
        x.pay(0, 6);
        x.pay(1, 6);
        x.enter(1);
        x.to(0, 0);
        x.stop(true);
        x.tick(2);
        int[] want = {12, 2, 4, 1, 2, 2, 1, 1};
        for (int what = 0; what <= 7; what++) {
            Check.due("told " + what, x.told(what), want[what]);
        }
    }
}
