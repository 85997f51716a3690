/** Promises 25 to 29, 31 and 34: sections, rows, lines, asking and holds at the ends of what they take. */
final class SeatEdges {
    private static final int LEAST = Integer.MIN_VALUE;
    private static final int MOST = Integer.MAX_VALUE;

    private SeatEdges() {
    }

    static void run() {
        Check.promise(25);
        sectionEnds();
        Check.promise(26);
        rowNone();
        rowEnds();
        rowNotFree();
        Check.promise(27);
        lineNone();
        linesEach();
        Check.promise(28);
        askNone();
        askEnds();
        askTooMany();
        ownSeats();
        loneEdges();
        bestOfAlike();
        sixtyHolds();
        Check.promise(29);
        holdNone();
        holdLast();
        Check.promise(31);
        giveNone();
        Check.promise(34);
        seatNone();
        seatStates();
    }

    private static void sectionEnds() {
        StageHouse x = new StageHouse();
        Check.yes("the least price", x.section(0, 0));
        Check.yes("the greatest price", x.section(7, 99999));
        x.row(0, 0, 2);
        x.row(1, 7, 2);
        x.ask(0, 0, 1, 0, 0, 9);
        x.ask(0, 7, 1, 0, 0, 9);
        Check.due("0", x.hold(0, 3), 0);
        Check.due("99999", x.hold(1, 3), 99999);
        int[] noSection = {-1, 8, LEAST, MOST};
        int[] noPrice = {-1, 100000, LEAST, MOST};
        for (int s : noSection) {
            Check.no("section " + s, x.section(s, 5));
        }
        for (int price : noPrice) {
            Check.no("price " + price, x.section(0, price));
            Check.no("price " + price, x.section(7, price));
        }
        Check.due("the first stays", x.hold(0, 3), 0);
        Check.due("the last stays", x.hold(1, 3), 99999);
        Check.yes("anew", x.section(7, 1));
        Check.due("by the price now", x.hold(1, 3), 1);
    }

    private static void rowNone() {
        StageHouse x = new StageHouse();
        x.row(0, 0, 3);
        x.row(39, 7, 3);
        int[][] none = {{-1, 0, 1}, {40, 0, 1}, {LEAST, 0, 1}, {MOST, 0, 1}, {0, -1, 1}, {0, 8, 1}, {0, LEAST, 1}, {0, MOST, 1}, {0, 0, 0},
            {0, 0, 31}, {0, 0, -1}, {0, 0, LEAST}, {0, 0, MOST}, {39, 8, 1}, {39, 0, 31}, {39, 0, 0}};
        for (int[] row : none) {
            Check.no("row " + row[0] + " " + row[1] + " " + row[2], x.row(row[0], row[1], row[2]));
        }
        for (int r = 0; r < 40; r += 39) {
            Check.due("its seats stay", x.seat(r, 2), 0);
            Check.due("no more of them", x.seat(r, 3), -1);
        }
        Check.due("its section stays", x.ask(0, 0, 3, 0, 0, 9), 0);
        Check.due("the last one's too", x.ask(0, 7, 3, 0, 0, 9), 1);
    }

    private static void rowEnds() {
        StageHouse x = new StageHouse();
        for (int r = 0; r < 40; r++) {
            int seats = r % 2 == 0 ? 1 : 30;
            Check.yes("row " + r, x.row(r, r % 8, seats));
            Check.due("last seat of " + r, x.seat(r, seats - 1), 0);
            Check.due("none behind in " + r, x.seat(r, seats), -1);
        }
        Check.yes("longer", x.row(0, 0, 30));
        Check.due("30 now", x.seat(0, 29), 0);
        Check.yes("shorter", x.row(0, 0, 1));
        Check.due("one now", x.seat(0, 1), -1);
        Check.yes("in another section", x.row(0, 1, 1));
        for (int r = 8; r < 40; r += 8) {
            x.row(r, 1, 1);
        }
        Check.due("none of section 0 are left", x.ask(0, 0, 1, 0, 0, 9), -1);
    }

    private static void rowNotFree() {
        StageHouse x = new StageHouse();
        x.section(0, 1);
        x.row(5, 0, 30);
        x.ask(0, 0, 1, 0, 0, 3);
        Check.no("one is held", x.row(5, 1, 4));
        Check.no("as it is", x.row(5, 0, 30));
        Check.due("30 yet", x.seat(5, 29), 0);
        Check.due("of section 0 yet", x.ask(0, 1, 1, 0, 0, 3), -1);
        x.tick(3);
        Check.yes("the hold is over", x.row(5, 0, 2));
        x.ask(0, 0, 1, 0, 0, 9);
        x.give(0);
        Check.yes("the hold is given up", x.row(5, 0, 3));
        x.ask(0, 0, 3, 0, 0, 9);
        x.pay(0, 3);
        Check.no("sold", x.row(5, 0, 3));
        Check.due("sold yet", x.seat(5, 2), 2);
        x.enter(0);
        Check.no("entered", x.row(5, 0, 3));
        Check.yes("another row", x.row(6, 0, 1));
        x.ask(0, 0, 1, 0, 0, 9);
        x.pay(0, 1);
        x.back(0, 1);
        Check.yes("given back", x.row(6, 0, 30));
        Check.due("all free", x.ask(0, 0, 10, 0, 0, 9), 0);
        firstOrLastNotFree();
    }

    private static void firstOrLastNotFree() {
        for (int k = 0; k < 30; k += 29) {
            StageHouse y = new StageHouse();
            y.row(3, 0, 30);
            int own = (3 + k) % 4;
            y.line(own, false);
            for (int h = 0; y.seat(3, k) == 0 && h < 9; h++) {
                y.ask(own, 0, 1, 0, 0, 9);
            }
            Check.due("seat " + k + " is held", y.seat(3, k), 1);
            for (int h = 0; h < 9; h++) {
                if (y.hold(h, 1) >= 0 && y.hold(h, 1) != k) {
                    y.give(h);
                }
            }
            Check.due("that one alone", y.told(3), 1);
            Check.no("seat " + k + " alone is held", y.row(3, 0, 30));
        }
    }

    private static void lineNone() {
        StageHouse x = new StageHouse();
        x.row(0, 0, 4);
        int[] none = {-1, 4, LEAST, MOST};
        for (int desk : none) {
            Check.no("desk " + desk, x.line(desk, false));
        }
        Check.due("none is cut", x.ask(0, 0, 4, 0, 0, 9), 0);
        x.give(0);
        for (int desk = 0; desk < 4; desk++) {
            Check.yes("cut", x.line(desk, false));
        }
        for (int desk : none) {
            Check.no("desk " + desk + " up", x.line(desk, true));
        }
        for (int desk = 0; desk < 4; desk++) {
            Check.due("all are cut", x.ask(desk, 0, 2, 0, 0, 9), -1);
            Check.due("its own one", x.ask(desk, 0, 1, 0, 0, 9), desk);
            Check.due("is that", x.hold(desk, 1), desk);
        }
    }

    private static void linesEach() {
        for (int cut = 0; cut < 4; cut++) {
            StageHouse x = new StageHouse();
            x.row(0, 0, 4);
            Check.yes("up as it is", x.line(cut, true));
            Check.yes("cut", x.line(cut, false));
            Check.yes("cut twice", x.line(cut, false));
            for (int desk = 0; desk < 4; desk++) {
                Check.due("not all four at " + desk, x.ask(desk, 0, 4, 0, 0, 9), -1);
            }
            Check.due("its own at the cut one", x.ask(cut, 0, 1, 0, 0, 9), 0);
            Check.due("seat " + cut, x.hold(0, 1), cut);
            x.give(0);
            Check.yes("up again", x.line(cut, true));
            Check.due("all four", x.ask(cut, 0, 4, 0, 0, 9), 0);
        }
    }

    private static void askNone() {
        StageHouse x = new StageHouse();
        x.row(0, 0, 30);
        x.row(1, 7, 30);
        x.tick(5);
        int[][] none = {{-1, 0, 1, 0, 0, 9}, {4, 0, 1, 0, 0, 9}, {LEAST, 0, 1, 0, 0, 9}, {MOST, 0, 1, 0, 0, 9}, {0, -1, 1, 0, 0, 9},
            {0, 8, 1, 0, 0, 9}, {0, LEAST, 1, 0, 0, 9}, {0, MOST, 1, 0, 0, 9}, {0, 0, 0, 0, 0, 9}, {0, 0, 11, 0, 0, 9}, {0, 0, -1, 0, 0, 9},
            {0, 0, LEAST, 0, 0, 9}, {0, 0, MOST, 0, 0, 9}, {0, 0, 1, -1, 0, 9}, {0, 0, 1, 4, 0, 9}, {0, 0, 1, LEAST, 0, 9},
            {0, 0, 1, MOST, 0, 9}, {0, 0, 1, 0, -1, 9}, {0, 0, 1, 0, 7, 9}, {0, 0, 1, 0, LEAST, 9}, {0, 0, 1, 0, MOST, 9},
            {0, 0, 1, 0, 0, 5}, {0, 0, 1, 0, 0, 4}, {0, 0, 1, 0, 0, 0}, {0, 0, 1, 0, 0, -1}, {0, 0, 1, 0, 0, LEAST}, {0, 3, 1, 0, 0, 9}};
        for (int[] a : none) {
            Check.due("ask " + java.util.Arrays.toString(a), x.ask(a[0], a[1], a[2], a[3], a[4], a[5]), -1);
        }
        Check.due("no hold came of it", x.told(3), 0);
        for (int k = 0; k < 30; k++) {
            Check.due("free " + k, x.seat(0, k) + x.seat(1, k), 0);
        }
    }

    private static void askEnds() {
        StageHouse x = new StageHouse();
        x.row(0, 0, 30);
        x.row(39, 7, 10);
        x.tick(5);
        Check.due("the least of all", x.ask(0, 0, 1, 0, 0, 6), 0);
        Check.due("the greatest of all", x.ask(3, 7, 10, 3, 6, MOST), 1);
        Check.due("a whole row", x.hold(1, 2), 10);
        Check.due("row 39", x.hold(1, 0), 39);
        Check.due("first seat", x.hold(1, 1), 0);
        Check.due("its tick", x.hold(1, 4), MOST);
        Check.due("none are left", x.ask(3, 7, 1, 3, 6, MOST), -1);
        x.tick(1);
        Check.due("the first is over", x.hold(0, 0), -1);
        x.tick(500);
        Check.due("the other is not", x.hold(1, 4), MOST);
    }

    /** As many as a row has, and one more. */
    private static void askTooMany() {
        for (int n = 1; n <= 10; n++) {
            StageHouse x = new StageHouse();
            x.row(0, 0, n);
            Check.due("one more than there are", x.ask(0, 0, n + 1, 0, 0, 9), -1);
            Check.due("all " + n, x.ask(0, 0, n, 0, 0, 9), 0);
            Check.due("the row is full", x.ask(0, 0, 1, 0, 0, 9), -1);
            x.row(1, 0, 10);
            x.row(2, 0, 10);
            Check.due("not from two rows", x.ask(0, 0, 10, 0, 0, 9), 1);
            Check.due("from one", x.hold(1, 0), 1);
        }
        StageHouse y = new StageHouse();
        y.row(0, 0, 5);
        y.row(1, 0, 5);
        Check.due("6 of 5 and 5", y.ask(0, 0, 6, 0, 0, 9), -1);
        y.ask(0, 0, 3, 0, 0, 9);
        y.ask(0, 0, 3, 0, 0, 9);
        Check.due("3 of 2 and 2", y.ask(0, 0, 3, 0, 0, 9), -1);
        Check.due("2 of 2 and 2", y.ask(0, 0, 2, 0, 0, 9), 2);
    }

    private static void ownSeats() {
        StageHouse x = new StageHouse();
        x.row(39, 0, 30);
        for (int desk = 0; desk < 4; desk++) {
            x.line(desk, false);
            int many = 0;
            for (int h = 0; h < 9 && x.ask(desk, 0, 1, 0, 0, 9) >= 0; h++) {
                Check.due("own seat of " + desk, (39 + x.hold(h, 1)) % 4, desk);
                many++;
            }
            // 39 is 3 modulo 4: seats 1, 5 .. 29 are desk 0's, 0, 4 .. 28 desk 3's, the others have seven.
            Check.due("own seats of " + desk, many, desk == 0 || desk == 3 ? 8 : 7);
            for (int h = 0; h < many; h++) {
                x.give(h);
            }
            x.line(desk, true);
        }
        x.line(0, false);
        Check.due("three between those of a cut desk", x.ask(1, 0, 3, 0, 0, 9), 0);
        Check.due("four are not", x.ask(1, 0, 4, 0, 0, 9), -1);
        x.line(2, false);
        Check.due("no two when each second one is cut", x.ask(1, 0, 2, 0, 0, 9), -1);
        Check.due("one is", x.ask(1, 0, 1, 0, 0, 9), 1);
        Check.due("two of a cut desk are never side by side", x.ask(2, 0, 2, 0, 0, 9), -1);
    }

    private static void loneEdges() {
        // Rows alone: how many are asked, where they shall be.
        int[][] runs = {{1, 1, 0}, {2, 1, 0}, {3, 1, 0}, {4, 1, 0}, {5, 1, 2}, {5, 2, 0}, {5, 3, 0}, {6, 2, 2}, {6, 3, 0}, {7, 3, 2},
            {4, 3, 0}, {30, 1, 14}, {30, 10, 10}, {11, 10, 0}, {12, 10, 0}, {13, 10, 0}, {14, 10, 2}};
        for (int[] run : runs) {
            StageHouse x = new StageHouse();
            x.row(0, 0, run[0]);
            x.ask(0, 0, run[1], 0, 0, 9);
            Check.due(run[1] + " of " + run[0], x.hold(0, 1), run[2]);
        }
        StageHouse x = new StageHouse();
        x.row(0, 0, 4);
        x.row(39, 0, 3);
        x.ask(0, 0, 3, 0, 0, 9);
        Check.due("no lone one, though the row is far", x.hold(0, 0), 39);
        x.ask(0, 0, 3, 0, 0, 9);
        Check.due("one, if it must be", x.hold(1, 0), 0);
        StageHouse y = new StageHouse();
        y.row(0, 0, 5);
        y.row(9, 0, 2);
        y.line(2, false);
        y.ask(2, 0, 1, 0, 0, 9);
        y.line(2, true);
        Check.due("the middle is held", y.hold(0, 1), 2);
        y.ask(0, 0, 1, 0, 0, 9);
        Check.due("each leaves one: the nearest", y.hold(1, 0), 0);
        Check.due("beside a held one", y.hold(1, 1), 1);
        StageHouse z = new StageHouse();
        z.row(0, 0, 3);
        z.line(2, false);
        z.ask(1, 0, 1, 0, 0, 9);
        Check.due("a free one that may not be taken is no lone one's end", z.hold(0, 1), 0);
        StageHouse w = new StageHouse();
        w.row(0, 0, 2);
        w.row(20, 0, 1);
        w.line(1, false);
        w.ask(0, 0, 1, 0, 0, 9);
        Check.due("one that may not be taken is lone as well", w.hold(0, 0), 20);
    }

    private static void bestOfAlike() {
        StageHouse x = new StageHouse();
        x.row(1, 0, 10);
        x.row(0, 0, 7);
        Check.due("10 are in row 1 alone", x.ask(0, 0, 10, 0, 0, 9), 0);
        x.give(0);
        x.ask(0, 0, 4, 0, 0, 9);
        Check.due("3 and 0 are no less than 0 and 3", x.hold(0, 0), 0);
        StageHouse y = new StageHouse();
        y.row(0, 0, 9);
        y.row(1, 0, 8);
        y.ask(0, 0, 2, 0, 0, 9);
        Check.due("row 0, a half from the middle", y.hold(0, 0), 0);
        Check.due("the left of two", y.hold(0, 1), 3);
        StageHouse z = new StageHouse();
        z.row(1, 0, 3);
        z.row(2, 0, 6);
        z.row(0, 1, 3);
        z.ask(0, 0, 3, 0, 0, 9);
        Check.due("3 and 0 before 6 and 3", z.hold(0, 0), 1);
        StageHouse far = new StageHouse();
        far.row(0, 0, 30);
        far.row(1, 0, 30);
        far.ask(0, 0, 2, 0, 0, 9);
        far.ask(0, 0, 2, 0, 0, 9);
        Check.due("3 and 0 before 0 and 4", far.hold(1, 0), 1);
        far.ask(0, 0, 2, 0, 0, 9);
        Check.due("0 and 4 before 3 and 4", far.hold(2, 0), 0);
        StageHouse w = new StageHouse();
        w.row(0, 0, 4);
        w.row(1, 0, 1);
        w.ask(0, 0, 1, 0, 0, 9);
        Check.due("0 and 3 as 3 and 0: the least row", w.hold(0, 0), 0);
        Check.due("its edge", w.hold(0, 1), 0);
    }

    private static void sixtyHolds() {
        StageHouse x = new StageHouse();
        x.row(0, 0, 30);
        x.row(1, 0, 30);
        x.row(2, 0, 30);
        for (int h = 0; h < 60; h++) {
            Check.due("hold " + h, x.ask(0, 0, 1, 0, 0, h == 30 ? 1 : 9), h);
        }
        Check.due("60 holds", x.told(3), 60);
        Check.due("not one more", x.ask(0, 0, 1, 0, 0, 9), -1);
        Check.due("60 yet", x.told(3), 60);
        Check.yes("the last is given up", x.give(59));
        Check.due("its number", x.ask(0, 0, 1, 0, 0, 9), 59);
        Check.due("full again", x.ask(0, 0, 1, 0, 0, 9), -1);
        Check.yes("one in between", x.give(7));
        x.tick(1);
        Check.due("30 is over", x.hold(30, 0), -1);
        Check.due("the least free number", x.ask(0, 0, 1, 0, 0, 9), 7);
        Check.due("the other", x.ask(0, 0, 1, 0, 0, 9), 30);
        Check.due("and full again", x.ask(0, 0, 1, 0, 0, 9), -1);
        Check.due("paid", x.pay(0, x.hold(0, 3)), 0);
        Check.due("that one's number is free", x.ask(0, 0, 1, 0, 0, 9), 0);
    }

    private static void holdNone() {
        StageHouse x = new StageHouse();
        x.section(2, 5);
        x.row(7, 2, 9);
        x.tick(3);
        x.ask(0, 2, 3, 1, 4, 8);
        int[] want = {7, 3, 3, 15, 8};
        for (int what = 0; what < 5; what++) {
            Check.due("what " + what, x.hold(0, what), want[what]);
        }
        int[] none = {-1, 5, LEAST, MOST};
        for (int what : none) {
            Check.due("what " + what, x.hold(0, what), -1);
        }
        int[] noHold = {-1, 1, 59, 60, LEAST, MOST};
        for (int h : noHold) {
            for (int what = 0; what < 5; what++) {
                Check.due("hold " + h, x.hold(h, what), -1);
            }
        }
        x.give(0);
        Check.due("given up", x.hold(0, 0), -1);
        x.ask(0, 2, 3, 1, 4, 8);
        x.pay(0, 15);
        Check.due("paid", x.hold(0, 0), -1);
        x.ask(0, 2, 3, 1, 4, 8);
        x.tick(4);
        Check.due("its last tick but one", x.hold(0, 4), 8);
        x.tick(1);
        Check.due("over", x.hold(0, 4), -1);
    }

    private static void holdLast() {
        StageHouse x = new StageHouse();
        x.section(0, 3);
        x.row(38, 0, 30);
        x.row(39, 0, 30);
        for (int h = 0; h < 60; h++) {
            x.ask(0, 0, 1, 3, 6, 100 + h);
        }
        Check.due("tick of the last", x.hold(59, 4), 159);
        Check.due("price of the last", x.hold(59, 3), 3);
        Check.due("row of the last", x.hold(59, 0) >= 38 ? 1 : 0, 1);
        Check.due("no hold 60", x.hold(60, 4), -1);
    }

    private static void giveNone() {
        StageHouse x = new StageHouse();
        x.row(0, 0, 10);
        Check.no("none is there", x.give(0));
        x.ask(0, 0, 2, 0, 0, 5);
        int[] none = {-1, 1, 59, 60, LEAST, MOST};
        for (int h : none) {
            Check.no("hold " + h, x.give(h));
        }
        Check.due("it stays", x.told(3), 1);
        Check.due("held", x.seat(0, 4), 1);
        Check.yes("given up", x.give(0));
        Check.no("once", x.give(0));
        Check.due("no hold", x.told(3), 0);
        Check.due("free", x.seat(0, 4), 0);
        x.ask(0, 0, 2, 0, 0, 5);
        x.pay(0, x.hold(0, 3));
        Check.no("paid", x.give(0));
        Check.due("sold", x.seat(0, 4), 2);
        x.ask(0, 0, 2, 0, 0, 5);
        x.tick(5);
        Check.no("over", x.give(0));
    }

    private static void seatNone() {
        StageHouse x = new StageHouse();
        x.row(0, 0, 1);
        x.row(39, 0, 30);
        int[][] none = {{-1, 0}, {40, 0}, {LEAST, 0}, {MOST, 0}, {0, -1}, {0, 1}, {0, 30}, {0, LEAST}, {0, MOST}, {39, 30}, {39, -1}, {1, 0},
            {38, 0}, {40, -1}, {-1, 30}};
        for (int[] seat : none) {
            Check.due("seat " + seat[0] + " " + seat[1], x.seat(seat[0], seat[1]), -1);
        }
        Check.due("first", x.seat(0, 0), 0);
        Check.due("last", x.seat(39, 29), 0);
    }

    private static void seatStates() {
        StageHouse x = new StageHouse();
        x.section(0, 1);
        x.row(39, 0, 10);
        int[] states = {0, 1, 2, 0};
        for (int state : states) {
            for (int k = 0; k < 10; k++) {
                Check.due("seat " + k, x.seat(39, k), state);
            }
            if (state == 0) {
                x.ask(0, 0, 10, 0, 0, 9);
            } else if (state == 1) {
                x.pay(0, 10);
            } else {
                x.back(0, 0);
            }
        }
        x.give(0);
        x.ask(0, 0, 4, 0, 0, 9);
        int[] want = {0, 0, 0, 1, 1, 1, 1, 0, 0, 0};
        for (int k = 0; k < 10; k++) {
            Check.due("four of ten, " + k, x.seat(39, k), want[k]);
        }
    }
}
