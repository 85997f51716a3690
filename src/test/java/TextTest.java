/** Promises 1 to 8: a new object, the tape, and the four texts with their faults. */
public final class TextTest {
    public static void main(String[] args) {
        newObject();
        tape();
        endOfTape();
        tokens();
        listTexts();
        listLimits();
        lockTexts();
        ruleTexts();
        shareTexts();
        faultKept();
        Check.end();
    }

    private static void newObject() {
        StageHouse x = new StageHouse();
        Check.due("NONE", StageHouse.NONE, -1);
        Check.due("now", x.told(5), 0);
        Check.due("fault at first", x.fault(), 0);
        for (int l = 0; l < 4; l++) {
            Check.due("cue at first", x.of(l, 0), 0);
            Check.due("cues at first", x.of(l, 5), 0);
            Check.due("master at first", x.of(l, 3), 255);
        }
        for (int b = 0; b < 128; b++) {
            Check.due("wire at first", x.wire(b), 0);
        }
        for (int n = 0; n < 8; n++) {
            Check.due("axis at first", x.axisAt(n, 0), 0);
            Check.due("lock at first", x.axisAt(n, 6), 1);
        }
        Check.due("seat at first", x.seat(0, 0), -1);
        Check.due("empty at first", x.empty(), 0);
        Check.due("share at first", x.share(0, 3), 1);
        Check.due("share is 0 at first", x.share(2, 0), 0);
        Check.due("denominator at first", x.share(2, 2), 1);
        x.row(0, 0, 4);
        Check.due("all lines are up", x.ask(0, 0, 4, 0, 0, 1), 0);
    }

    private static void tape() {
        StageHouse x = new StageHouse();
        Check.due("cut of none", x.cut(0), 0);
        Check.due("cut beyond", x.cut(1), -1);
        for (int i = 1; i <= 200; i++) {
            Check.due("feed", x.feed(0x20202020, 0x20202020, 0x20202020, 0x20202020, 0x20202020), 20 * i);
        }
        Check.due("feed beyond 4000", x.feed(0, 0, 0, 0, 0), -1);
        Check.due("cut below 0", x.cut(-1), -1);
        Check.due("cut above", x.cut(4001), -1);
        Check.due("cut at all", x.cut(4000), 0);
        Check.due("cut", x.cut(3981), 19);
        Check.due("feed 19 too much", x.feed(0, 0, 0, 0, 0), -1);
        Check.due("cut again", x.cut(3980), 1);
        Check.due("feed just fits", x.feed(0x3f202020, 0, 0, 0, 0), 4000);
        Check.due("highest byte is first", x.list(0), -10 - 3980);
        Check.due("the tape is used up", x.cut(1), -1);
        x.feed(0x63756520, 0x31207b7d, 0x20202020, 0x20202020, 0x20202020);
        Check.due("bytes in order", x.list(0), 1);
        x.feed(0, 0, 0, 0, 0);
        Check.due("no such list", x.list(4), -1);
        Check.due("used up by it", x.cut(1), -1);
        x.feed(0, 0, 0, 0, 0);
        Check.due("no such lock", x.lock(-1), -1);
        Check.due("used up by that", x.cut(1), -1);
        x.feed(0, 0, 0, 0, 0);
        Check.due("zero bytes are no tokens", x.rules(), -10);
        Check.due("used up by rules", x.cut(1), -1);
        x.feed(0, 0, 0, 0, 0);
        Check.due("zero bytes in shares", x.shares(), -10);
        Check.due("used up by shares", x.cut(1), -1);
    }

    /** Bytes that were cut away, or that an older text left, are not looked at; nor is what is beyond byte 4000. */
    private static void endOfTape() {
        StageHouse x = new StageHouse();
        Check.text(x, "manymany");
        x.cut(4);
        Check.due("a word that was cut", x.rules(), -14);
        Check.text(x, "event 123");
        x.cut(7);
        Check.due("a number that was cut", x.lock(0), 0);
        Check.text(x, "event 1abc");
        x.cut(7);
        Check.due("a letter that was cut", x.lock(0), 0);
        Check.text(x, "event 1 ; ");
        x.cut(8);
        Check.due("a sign that was cut", x.lock(0), 0);
        String blanks = Check.many(" ", 3993);
        Check.due("a number at the very end", Check.lock(new StageHouse(), 0, blanks + "event 1"), 0);
        Check.due("a word at the very end", Check.lock(new StageHouse(), 0, blanks + "  event"), -10 - 4000);
        Check.due("a sign at the very end", Check.lock(new StageHouse(), 0, blanks + "event )"), -10 - 3999);
        Check.due("blanks to the very end", Check.list(new StageHouse(), 0, Check.many(" ", 4000)), 0);
        Check.due("a long number", Check.lock(new StageHouse(), 0, Check.many("9", 4000)), -10);
        Check.due("a long word", Check.lock(new StageHouse(), 0, Check.many("z", 4000)), -10);
    }

    private static void tokens() {
        StageHouse x = new StageHouse();
        Check.due("blanks", Check.list(x, 0, "\t\r\n cue\t1\r{\n} "), 1);
        Check.due("no blanks", Check.list(x, 0, "cue1{}cue2 up3 down4{channels1-3,5 at6;}"), 2);
        Check.due("zeros ahead", Check.list(x, 0, "cue 00000001 { }"), 1);
        Check.due("only blanks", Check.list(x, 0, " \n"), 0);
        Check.faultyList("^cues 1 { }", 1);
        Check.faultyList("^abcdefghijklm", 1);
        Check.faultyList("cue ^1a { }", 1);
        Check.faultyList("cue ^100000 { }", 1);
        Check.faultyList("cue ^99999 { }", 2);
        Check.faultyList("cue ^99999999999999999999 { }", 1);
        Check.faultyList("cue 1 ^# { }", 1);
        Check.faultyList("cue 1 ^\f{ }", 1);
        Check.faultyList("cue 1 ^\u00e9 { }", 1);
        Check.faultyList("^Cue 1 { }", 1);
        Check.faultyList("^cuez 1 { }", 1);
        Check.faultyList("cue ^1z { }", 1);
        Check.faultyList("cue 1 { channels 1 ^atz 5; }", 1);
        Check.faultyList("cue 1 { } ^;", 1);
        Check.faultyList("cue 1 { }   ^\u0000", 1);
    }

    private static void listTexts() {
        StageHouse x = new StageHouse();
        Check.due("empty text", Check.list(x, 0, ""), 0);
        Check.due("all options", Check.list(x, 1,
                "cue 1 up 0 down 9999 wait 9999 follow 9999 block link 999.99 { channels 1,64,2-2,3-64 at 255; "
                + "axis 7 to 99999; let 0; fire 15; go 3 1.1; master 0 at 0; }"), 1);
        Check.due("names rise", Check.list(x, 2, "cue 1 {} cue 1.1 {} cue 1.99 {} cue 2 {} cue 999.99 {}"), 5);
        Check.faultyList("cue ^0 { }", 2);
        Check.faultyList("cue ^1000 { }", 2);
        Check.faultyList("cue 1.^0 { }", 2);
        Check.faultyList("cue 1.^100 { }", 2);
        Check.faultyList("cue 1.^{ }", 1);
        Check.faultyList("cue^", 1);
        Check.faultyList("cue ^{ }", 1);
        Check.faultyList("cue 1 ^", 1);
        Check.faultyList("cue 1 {^", 1);
        Check.faultyList("cue 2 { } cue ^2 { }", 3);
        Check.faultyList("cue 2 { } cue ^1.99 ? }", 3);
        Check.faultyList("cue 2 { } cue 1.^100 { }", 2);
        Check.faultyList("cue 2 { } cue 1.^? { }", 1);
        Check.faultyList("cue 2 { } cue ^0 { }", 2);
        Check.faultyList("cue 1 up 1 ^up ? { }", 3);
        Check.faultyList("cue 1 block down 2 ^block { }", 3);
        Check.faultyList("cue 1 link 1 ^link 0 { }", 3);
        Check.faultyList("cue 1 up 1 down 1 wait 1 follow 1 block link 1 ^wait { }", 3);
        Check.faultyList("cue 1 up ^10000 { }", 2);
        Check.faultyList("cue 1 down ^10000 { }", 2);
        Check.faultyList("cue 1 wait ^10000 { }", 2);
        Check.faultyList("cue 1 follow ^0 { }", 2);
        Check.faultyList("cue 1 follow ^10000 { }", 2);
        Check.faultyList("cue 1 follow ^{ }", 1);
        Check.faultyList("cue 1 link ^0 { }", 2);
        Check.faultyList("cue 1 link 1.^0 { }", 2);
        Check.faultyList("cue 1 ^at { }", 1);
        Check.due("a link may go back", Check.list(x, 3, "cue 5 link 1 { go 0 1; }"), 1);
        acts();
    }

    private static void acts() {
        Check.faultyList("cue 1 { channels ^0 at 1; }", 2);
        Check.faultyList("cue 1 { channels ^65 at 1; }", 2);
        Check.faultyList("cue 1 { channels 5-^4 at 1; }", 2);
        Check.faultyList("cue 1 { channels 5-^65 at 1; }", 2);
        Check.faultyList("cue 1 { channels 5,^at 1; }", 1);
        Check.faultyList("cue 1 { channels ^at 1; }", 1);
        Check.faultyList("cue 1 { channels 1 ^to 1; }", 1);
        Check.faultyList("cue 1 { channels 1 at ^256; }", 2);
        Check.faultyList("cue 1 { channels 1 at 25 ^}", 1);
        Check.faultyList("cue 1 { axis ^8 to 1; }", 2);
        Check.faultyList("cue 1 { axis 7 ^at 1; }", 1);
        Check.faultyList("cue 1 { axis 7 to ^100000; }", 1);
        Check.faultyList("cue 1 { let ^8; }", 2);
        Check.faultyList("cue 1 { fire ^16; }", 2);
        Check.faultyList("cue 1 { go ^4 1; }", 2);
        Check.faultyList("cue 1 { go 3 ^0; }", 2);
        Check.faultyList("cue 1 { go 3 1.^0; }", 2);
        Check.faultyList("cue 1 { go 3 ^; }", 1);
        Check.faultyList("cue 1 { master ^4 at 1; }", 2);
        Check.faultyList("cue 1 { master 3 at ^256; }", 2);
        Check.faultyList("cue 1 { master 3 ^1; }", 1);
        Check.faultyList("cue 1 { ^up 1; }", 1);
        Check.faultyList("cue 1 { ^; }", 1);
        Check.faultyList("cue 1 { ^1 at 5; }", 1);
        Check.faultyList("cue 1 { let 1; ^cue 2 { } }", 1);
    }

    private static void listLimits() {
        StringBuilder sixty = new StringBuilder();
        for (int i = 1; i <= 60; i++) {
            sixty.append("cue ").append(i).append("{}");
        }
        StageHouse x = new StageHouse();
        Check.due("60 cues", Check.list(x, 0, sixty.toString()), 60);
        Check.faultyList(sixty + " ^cue 61 { }", 2);
        Check.faultyList(sixty + " ^cue 1 { }", 2);
        Check.faultyList(sixty + " ^que 61 { }", 1);
        String acts = "cue 1 {" + Check.many("let 1;", 200) + "} cue 2 {" + Check.many("let 1;", 100);
        Check.due("300 acts", Check.list(x, 0, acts + "}"), 2);
        Check.due("more cues without acts", Check.list(x, 0, acts + "} cue 3 { }"), 3);
        Check.faultyList(acts + "^let 99; }", 2);
        Check.faultyList(acts + "^channels ? }", 2);
        Check.faultyList(acts + "^left 1; }", 1);
        Check.faultyList(acts + "} cue 3 { ^fire 1; }", 2);
        String one = "cue 1 {" + Check.many("let 1;", 300);
        Check.due("300 acts of one cue", Check.list(x, 0, one + "}"), 1);
        Check.faultyList(one + "^fire 1; }", 2);
        Check.due("least numbers", Check.list(x, 0, "cue 1 { axis 0 to 0; channels 1 at 0; fire 0; go 0 1; master 0 at 0; }"), 1);
    }

    private static void lockTexts() {
        StageHouse x = new StageHouse();
        Check.due("no such lock", Check.lock(x, 8, "event 1"), -1);
        Check.due("terms", Check.lock(x, 7, "axis 7 < 99999 & axis 0 > 0 | still 7 & !event 15"), 0);
        Check.due("12 deep", Check.lock(x, 7, Check.many("!", 12) + "event 1"), 0);
        Check.due("12 deep, each kind", Check.lock(x, 7, Check.many("!(", 6) + "event 1" + Check.many(")", 6)), 0);
        Check.due("12 deep twice", Check.lock(x, 7, Check.many("!", 12) + "event 1&" + Check.many("!", 12) + "event 1"), 0);
        Check.faultyLock(Check.many("!", 12) + "^!event 1", 2);
        Check.faultyLock(Check.many("(", 12) + "^(event 1", 2);
        Check.faultyLock(Check.many("(", 12) + "event 1 | ^!event 1", 2);
        Check.faultyLock(Check.many("!(", 6) + "^? event 1", 1);
        String sixty = Check.many("event 1|", 19) + "axis 0<1";
        Check.due("60 tokens less a few", Check.lock(x, 7, sixty.replace("axis 0<1", "!event 1")), 0);
        Check.due("61 tokens", Check.lock(x, 7, sixty), -10 - (sixty.length() - 1));
        Check.due("61 is a range", x.fault(), 2);
        Check.due("60 tokens", Check.lock(x, 7, Check.many("event 1|", 19) + "!event 1"), 0);
        Check.faultyLock(Check.many("event 1|", 19) + "!event 1 ^| event 1", 2);
        Check.faultyLock(Check.many("event 1|", 19) + "!event 1 ^event", 1);
        Check.faultyLock(Check.many("event 1|", 19) + "!event 1 ^?", 1);
        Check.faultyLock(Check.many("event 1|", 19) + "axis 0<^?", 1);
        Check.faultyLock("^", 1);
        Check.faultyLock("(event 1^", 1);
        Check.faultyLock("(event 1 ^; )", 1);
        Check.faultyLock("event 1 ^)", 1);
        Check.faultyLock("event 1 & ^| event 2", 1);
        Check.faultyLock("event 1 ^event 2", 1);
        Check.faultyLock("event ^16", 2);
        Check.faultyLock("still ^8", 2);
        Check.faultyLock("axis ^8 < 1", 2);
        Check.faultyLock("axis 7 ^= 1", 1);
        Check.faultyLock("axis 7 ^& 1", 1);
        Check.faultyLock("axis 7 < ^100000", 1);
        Check.faultyLock("axis 7 > ^", 1);
        Check.faultyLock("(^)", 1);
    }

    private static void ruleTexts() {
        StageHouse x = new StageHouse();
        Check.due("no rules", Check.rules(x, ""), 0);
        Check.due("all of them", Check.rules(x,
                "many 1, kind 0, day 0, section 0: % 0; many 10, kind 3, day 6, section 7, many 2: % 200;"
                + "kind 1: - 99999; day 1: + 99999; section 1: @ 99999;"), 5);
        String twenty = Check.many("day 1:-1;", 20);
        Check.due("20 rules", Check.rules(x, twenty), 20);
        Check.faultyRules(twenty + "^day 1:-1;", 2);
        Check.faultyRules(twenty + "^days 1:-1;", 1);
        Check.faultyRules("many ^0: % 1;", 2);
        Check.faultyRules("many ^11: % 1;", 2);
        Check.faultyRules("kind ^4: % 1;", 2);
        Check.faultyRules("day ^7: % 1;", 2);
        Check.faultyRules("section ^8: % 1;", 2);
        Check.faultyRules("section 7: % ^201;", 2);
        Check.faultyRules("section 7: - ^100000;", 1);
        Check.faultyRules("section 7: ^/ 5;", 1);
        Check.faultyRules("section 7: ^5;", 1);
        Check.faultyRules("section 7: ^;", 1);
        Check.faultyRules("section 7 ^;", 1);
        Check.faultyRules("section 7, ^: @ 5;", 1);
        Check.faultyRules("section 7 ^% 5;", 1);
        Check.faultyRules("section 7: @ 5^", 1);
        Check.faultyRules("section 7: @ 5; ^;", 1);
        Check.faultyRules("^: @ 5;", 1);
    }

    private static void shareTexts() {
        StageHouse x = new StageHouse();
        Check.due("no shares", Check.shares(x, ""), 0);
        Check.due("three", Check.shares(x, "2: 0 % of taken; 0: 100 % of 2 + 100%of 1 + 99999 + 1; 1: 5;"), 3);
        Check.due("one", Check.shares(x, "1: 5;"), 1);
        Check.faultyShares("^3: 1;", 2);
        Check.faultyShares("^a: 1;", 1);
        Check.faultyShares("0: 1; ^0: 2;", 3);
        Check.faultyShares("0: 1; 1: 1; 2: 1; ^1 ? 2;", 3);
        Check.faultyShares("0: 1; 1: 1; 2: 1; ^3: 2;", 2);
        Check.faultyShares("0: 1 + 2 + 3 + 4 + ^5;", 2);
        Check.faultyShares("0: 1 + 2 + 3 + 4 + ^of;", 1);
        Check.faultyShares("0: ^101 % of taken;", 2);
        Check.faultyShares("0: ^101 % ?", 2);
        Check.faultyShares("0: 100 % of ^3;", 2);
        Check.faultyShares("0: 100 % of ^token;", 1);
        Check.faultyShares("0: 100 % ^taken;", 1);
        Check.faultyShares("0: 100 ^of taken;", 1);
        Check.faultyShares("0: ^100000;", 1);
        Check.faultyShares("0: ^;", 1);
        Check.faultyShares("0 ^1;", 1);
        Check.faultyShares("0: 1^", 1);
        Check.faultyShares("0: 1 +^", 1);
    }

    private static void faultKept() {
        StageHouse x = new StageHouse();
        Check.due("a fault", Check.list(x, 0, "cue 0 { }"), -14);
        Check.due("told", x.fault(), 2);
        Check.due("no such list", Check.list(x, -1, "cue 1 { }"), -1);
        Check.due("does not count", x.fault(), 2);
        Check.due("no such lock", Check.lock(x, 8, "event 1"), -1);
        Check.due("does not count either", x.fault(), 2);
        Check.due("a sound text", Check.rules(x, ""), 0);
        Check.due("none now", x.fault(), 0);
        Check.due("shares fault", Check.shares(x, "0:1;0:1;"), -14);
        Check.due("order", x.fault(), 3);
        Check.due("lock fault", Check.lock(x, 0, "event"), -15);
        Check.due("token", x.fault(), 1);
        Check.due("cue 1", Check.list(x, 0, "cue 1 { channels 1 at 7; }"), 1);
        Check.due("list stays", Check.list(x, 0, "cue 2 { channels 1 at 8; } cue"), -40);
        Check.due("as it was", x.tracks(0, 1, 0, 1), 7);
        Check.due("not there", x.tracks(0, 2, 0, 1), -1);
    }
}
