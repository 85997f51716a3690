/** Promises 4 to 7: the numbers, counts and depths that the four texts take, and the first that they do not. */
final class TextEdges {
    private static final String SIXTY_CUES = cues(60);
    private static final String TWENTY_RULES = Check.many("day 1:-1;", 20);
    private static final String FIFTY_SEVEN = Check.many("event 1|", 19);

    private TextEdges() {
    }

    static void run() {
        Check.promise(4);
        tokens();
        names();
        namesInOrder();
        optionNumbers();
        optionsOnce();
        channels();
        otherActs();
        cueCount();
        actCount();
        ends();
        firstByPlace();
        listStays();
        Check.promise(5);
        lockNumbers();
        lockDepth();
        lockLength();
        lockEnds();
        lockStays();
        Check.promise(6);
        ruleNumbers();
        ruleCount();
        ruleEnds();
        rulesStay();
        Check.promise(7);
        shareNumbers();
        shareCount();
        shareEnds();
        sharesStay();
    }

    private static String cues(int many) {
        StringBuilder text = new StringBuilder();
        for (int i = 1; i <= many; i++) {
            text.append("cue ").append(i).append("{}");
        }
        return text.toString();
    }

    private static void soundList(String text, int cues) {
        StageHouse x = new StageHouse();
        Check.due("list: " + text, Check.list(x, 0, text), cues);
        Check.due("no fault in list: " + text, x.fault(), 0);
        Check.due("cues of list: " + text, x.of(0, 5), cues);
    }

    private static void soundAct(String act) {
        soundList("cue 1 { " + act + "; }", 1);
    }

    private static void faultyAct(String act, int fault) {
        Check.faultyList("cue 1 { " + act + "; }", fault);
    }

    private static void soundLock(String text) {
        StageHouse x = new StageHouse();
        Check.due("lock: " + text, Check.lock(x, 0, text), 0);
        Check.due("no fault in lock: " + text, x.fault(), 0);
    }

    private static void soundRules(String text, int many) {
        StageHouse x = new StageHouse();
        Check.due("rules: " + text, Check.rules(x, text), many);
        Check.due("no fault in rules: " + text, x.fault(), 0);
    }

    private static void soundShares(String text, int many) {
        StageHouse x = new StageHouse();
        Check.due("shares: " + text, Check.shares(x, text), many);
        Check.due("no fault in shares: " + text, x.fault(), 0);
    }

    private static void tokens() {
        soundList("cue\t1\r{\n} cue 2\t\r\n {}", 2);
        soundList("cue1{}cue2 up3 down4{channels1-3,5 at6;}", 2);
        soundList("\n\t\r cue 1 { } \r\n\t", 1);
        soundAct("axis 0 to 99999");
        faultyAct("axis 0 to ^100000", 1);
        faultyAct("axis 0 to ^99999999999", 1);
        faultyAct("axis 0 to ^4294967296", 1);
        Check.faultyList("cue ^99999 { }", 2);
        Check.faultyList("cue ^100000 { }", 1);
        Check.faultyList("cue ^1up 3 { }", 1);
        Check.faultyList("cue ^1a { }", 1);
        Check.faultyList("cue ^1z { }", 1);
        Check.faultyList("cue ^0a { }", 1);
        Check.faultyList("cue 1 up ^9999wait 1 { }", 1);
        Check.faultyList("cue 1 ^\u000b{ }", 1);
        Check.faultyList("cue 1 ^\f{ }", 1);
        Check.faultyList("cue 1 ^\u00a0{ }", 1);
        Check.faultyList("cue 1 ^_ { }", 1);
        Check.faultyList("cue 1 ^/ { }", 1);
        Check.faultyList("^cuecuecuecue 1 { }", 1);
        Check.faultyList("^cuecuecuecuec 1 { }", 1);
        Check.faultyList("^cuez 1 { }", 1);
        Check.faultyList("^cuea 1 { }", 1);
        Check.faultyList("^cu e 1 { }", 1);
        Check.faultyList("^cu", 1);
        Check.faultyList("^c", 1);
        Check.faultyList("^`", 1);
        Check.faultyList("cue 1 ^`{ }", 1);
        soundList("cue 1{}", 1);
    }

    private static void names() {
        String[] taken = {"1", "999", "1.1", "1.99", "999.99", "1 . 1"};
        String[] range = {"^0", "^1000", "1.^0", "1.^100", "^0.1", "999.^100"};
        String[] token = {"^", "^.1", "1.^", "1.^.1", "^-1", "^up", "^100000", "1.^100000", "1^,1"};
        for (String name : taken) {
            soundList("cue " + name + " { }", 1);
            soundList("cue 1 link " + name + " { }", 1);
            soundAct("go 0 " + name);
        }
        for (String name : range) {
            Check.faultyList("cue " + name + " { }", 2);
            Check.faultyList("cue 1 link " + name + " { }", 2);
            faultyAct("go 0 " + name, 2);
        }
        for (String name : token) {
            Check.faultyList("cue " + name + "{ }", 1);
            Check.faultyList("cue 1 link " + name + "{ }", 1);
            faultyAct("go 0 " + name, 1);
        }
    }

    private static void namesInOrder() {
        soundList("cue 1 { } cue 1.1 { }", 2);
        soundList("cue 1.99 { } cue 2 { }", 2);
        soundList("cue 1.9 { } cue 1.10 { }", 2);
        soundList("cue 999.98 { } cue 999.99 { }", 2);
        soundList("cue 2 link 1 { go 0 1; }", 1);
        Check.faultyList("cue 1 { } cue ^1 { }", 3);
        Check.faultyList("cue 1.1 { } cue ^1.1 { }", 3);
        Check.faultyList("cue 1.1 { } cue ^1 { }", 3);
        Check.faultyList("cue 2 { } cue ^1.99 { }", 3);
        Check.faultyList("cue 1.10 { } cue ^1.9 { }", 3);
        Check.faultyList("cue 1 { } cue 3 { } cue ^2 { }", 3);
        Check.faultyList("cue 3 { } cue ^2", 3);
        Check.faultyList("cue 3 { } cue ^2 ?", 3);
        Check.faultyList("cue 3 { } cue ^2 . 1 up ?", 3);
        Check.faultyList("cue 3 { } cue ^2 up 10000 { }", 3);
        Check.faultyList("cue 3 { } cue 2.^0 { }", 2);
        Check.faultyList("cue 3 { } cue 2.^100 { }", 2);
        Check.faultyList("cue 3 { } cue 2.^{ }", 1);
        Check.faultyList("cue 3 { } cue 2.^", 1);
        Check.faultyList("cue 3 { } cue ^0 { }", 2);
        Check.faultyList("cue 3 { } cue ^2a { }", 1);
    }

    private static void optionNumbers() {
        String[] words = {"up", "down", "wait"};
        for (String word : words) {
            soundList("cue 1 " + word + " 0 { }", 1);
            soundList("cue 1 " + word + " 9999 { }", 1);
            Check.faultyList("cue 1 " + word + " ^10000 { }", 2);
            Check.faultyList("cue 1 " + word + " ^99999 { }", 2);
            Check.faultyList("cue 1 " + word + " ^100000 { }", 1);
            Check.faultyList("cue 1 " + word + " ^-1 { }", 1);
            Check.faultyList("cue 1 " + word + " ^{ }", 1);
        }
        soundList("cue 1 follow 1 { }", 1);
        soundList("cue 1 follow 9999 { }", 1);
        Check.faultyList("cue 1 follow ^0 { }", 2);
        Check.faultyList("cue 1 follow ^10000 { }", 2);
        Check.faultyList("cue 1 follow ^{ }", 1);
        soundList("cue 1 block { }", 1);
        Check.faultyList("cue 1 block ^1 { }", 1);
        Check.faultyList("cue 1 ^at { }", 1);
        Check.faultyList("cue 1 ^channels { }", 1);
    }

    private static void optionsOnce() {
        String[] options = {"up 1", "down 1", "wait 1", "follow 1", "block", "link 1"};
        for (String first : options) {
            Check.faultyList("cue 1 " + first + " ^" + first + " { }", 3);
            Check.faultyList("cue 1 " + first + " ^" + first.replace('1', '?') + " { }", 3);
            for (String second : options) {
                if (!first.equals(second)) {
                    soundList("cue 1 " + first + " " + second + " { } cue 2 " + first + " { }", 2);
                    Check.faultyList("cue 1 " + first + " " + second + " ^" + first + " { }", 3);
                }
            }
            String all = "cue 1 up 1 down 1 wait 1 follow 1 block link 1 ";
            soundList(all + "{ }", 1);
            Check.faultyList(all + "^" + first + " { }", 3);
        }
    }

    private static void channels() {
        String[] taken = {"1", "64", "1-64", "64-64", "1-1", "5-5", "5-6", "1,64", "1,1,1-2,2-3,64", "64,1"};
        for (String which : taken) {
            soundAct("channels " + which + " at 0");
            soundAct("channels " + which + " at 255");
            faultyAct("channels " + which + " at ^256", 2);
        }
        String[] range = {"^0", "^65", "1-^65", "5-^4", "64-^63", "2-^1", "1-^0", "1,^0", "1,^65", "1,5-^4", "1-2,5-^65", "^0-0", "^65-64"};
        for (String which : range) {
            faultyAct("channels " + which + " at 1", 2);
        }
        String[] token = {"^", "^,1 ", "1,^", "1-^", "1-^-2 ", "1-2^-3 ", "^-2 ", "1 ^2 ", "1,^,2 ", "^100000 ", "1-^100000 "};
        for (String which : token) {
            faultyAct("channels " + which + "at 1", 1);
        }
        faultyAct("channels 1 at ^100000", 1);
        faultyAct("channels 1 at ^", 1);
        faultyAct("channels 1 ^1", 1);
        faultyAct("channels 1 ^to 1", 1);
    }

    private static void otherActs() {
        String[] taken = {"axis 0 to 0", "axis 7 to 99999", "let 0", "let 7", "fire 0", "fire 15", "go 0 1", "go 3 999.99",
            "master 0 at 0", "master 3 at 255"};
        String[] range = {"axis ^8 to 0", "axis ^99999 to 0", "let ^8", "fire ^16", "go ^4 1", "master ^4 at 0", "master 0 at ^256"};
        String[] token = {"axis ^to 0", "axis 0 ^0", "axis 0 ^at 0", "axis 0 to ^", "axis 0 to ^100000", "let ^", "let 0 ^to 1",
            "fire ^", "fire ^-1", "go ^", "go 0 ^", "master ^at 1", "master 0 ^to 1", "master 0 at ^", "^at 1", "^cue 2", "^up 1",
            "^1", "^;", "^{ }", "let 0;^;"};
        for (String act : taken) {
            soundAct(act);
        }
        for (String act : range) {
            faultyAct(act, 2);
        }
        for (String act : token) {
            faultyAct(act, 1);
        }
    }

    private static void cueCount() {
        soundList("", 0);
        soundList(" \t\r\n", 0);
        soundList(SIXTY_CUES, 60);
        soundList(SIXTY_CUES + " \n", 60);
        Check.faultyList(SIXTY_CUES + "^cue 61{}", 2);
        Check.faultyList(SIXTY_CUES + " ^cue", 2);
        Check.faultyList(SIXTY_CUES + "^cue 1{}", 2);
        Check.faultyList(SIXTY_CUES + "^cue 0{}", 2);
        Check.faultyList(SIXTY_CUES + "^que 61{}", 1);
        Check.faultyList(SIXTY_CUES + "^}", 1);
        Check.faultyList(SIXTY_CUES + "^7", 1);
    }

    private static void actCount() {
        String full = "cue 1{" + Check.many("let 1;", 299) + "channels 1 at 1;";
        soundList(full + "}", 1);
        soundList(full + "}cue 2 block{}cue 3{}", 3);
        Check.faultyList(full + "^let 1;}", 2);
        Check.faultyList(full + "^let 8;}", 2);
        Check.faultyList(full + "^channels 0 at 1;}", 2);
        Check.faultyList(full + "^fire", 2);
        Check.faultyList(full + "^up 1;}", 1);
        Check.faultyList(full + "^;}", 1);
        Check.faultyList(full + "}cue 2{^axis 1 to 1;}", 2);
        Check.faultyList(full + "}cue ^1{let 1;}", 3);
        StageHouse x = new StageHouse();
        for (int turn = 0; turn < 6; turn++) {
            Check.due("each text has acts of its own", Check.list(x, turn % 2, "cue 1{" + Check.many("let 1;", 200) + "}"), 1);
        }
        String parted = cues(59).replace("{}", "{let 1;fire 1;go 1 1;let 1;fire 1;}") + "cue 60{";
        soundList(parted + Check.many("let 1;", 5) + "}", 60);
        Check.faultyList(parted + Check.many("let 1;", 5) + "^master 1 at 1;}", 2);
    }

    private static void ends() {
        String[] texts = {"cue^", "cue ^", "cue 1^", "cue 1 ^", "cue 1 {^", "cue 1 {  \n^", "cue 1 { let^", "cue 1 { let 1^",
            "cue 1 { let 1;^", "cue 1 up^", "cue 1 up 1^", "cue 1 block^", "cue 1 link 1.^", "cue 1 { } cue^", "cue 1 { channels 1-^",
            "cue 1 { channels 1,^", "cue 1 { channels 1 at^", "cue 1 { go 1^", "cue 1 { axis 1 to ^"};
        for (String text : texts) {
            Check.faultyList(text, 1);
        }
        Check.faultyList(Check.many(" ", 3999) + "^;", 1);
        Check.faultyList(Check.many(" ", 3997) + "cue^", 1);
        soundList(Check.many(" ", 3993) + "cue 1{}", 1);
        soundList(Check.many(" ", 4000), 0);
    }

    private static void firstByPlace() {
        Check.faultyList("^? ? cue 0", 1);
        Check.faultyList("cue ^0 { ? }", 2);
        Check.faultyList("cue ^? 0", 1);
        Check.faultyList("cue 1 up ^10000 up ?", 2);
        Check.faultyList("cue 1 up 1 ^up 10000 ?", 3);
        Check.faultyList("cue 2 { let ^8; } cue 1 { ? }", 2);
        Check.faultyList("cue 2 { } cue ^1 { let 8; ? }", 3);
        Check.faultyList("cue 1 { channels 5-^4,0 at 256; }", 2);
        Check.faultyList("cue 1 { channels 5 at ^256 ? }", 2);
    }

    private static void listStays() {
        int[] none = {-1, 4, Integer.MIN_VALUE, Integer.MAX_VALUE};
        String[] faulty = {"?", "cue 1 { channels 1 at 9; } cue", "cue 1 { channels 1 at 9; } cue 0 { }",
            "cue 1 { channels 1 at 9; } cue 1 { }", SIXTY_CUES + "cue 61 { }"};
        int[] places = {0, 30, 31, 31, SIXTY_CUES.length()};
        for (int i = 0; i < faulty.length; i++) {
            StageHouse x = new StageHouse();
            Check.list(x, 3, "cue 1 up 4 follow 6 { channels 1 at 8; } cue 2 { }");
            x.go(3);
            x.tick(1);
            Check.due(faulty[i], Check.list(x, 3, faulty[i]), -10 - places[i]);
            stays(x);
            for (int l : none) {
                Check.due("no list " + l, Check.list(x, l, "cue 1 { }"), -1);
            }
            stays(x);
            Check.due("told anew", Check.list(x, 3, ""), 0);
            Check.due("no cues", x.of(3, 5), 0);
            Check.due("no cue", x.of(3, 0), 0);
            Check.due("no level", x.level(3, 1), 0);
            Check.no("none to go to", x.go(3));
        }
        for (int l = 0; l < 4; l++) {
            StageHouse x = new StageHouse();
            Check.due("list " + l, Check.list(x, l, "cue 7 { }"), 1);
            for (int other = 0; other < 4; other++) {
                Check.due("cues of " + other, x.of(other, 5), other == l ? 1 : 0);
            }
        }
    }

    private static void stays(StageHouse x) {
        Check.due("its cues", x.of(3, 5), 2);
        Check.due("its cue", x.of(3, 0), 100);
        Check.due("its follow", x.of(3, 2), 5);
        Check.due("its level", x.level(3, 1), 2);
        Check.due("what it tracks", x.tracks(3, 1, 0, 1), 8);
        Check.due("other lists", x.of(0, 5), 0);
    }

    private static void lockNumbers() {
        String[] taken = {"axis 0 < 0", "axis 7 > 0", "axis 0 > 99999", "axis 7 < 99999", "still 0", "still 7", "event 0", "event 15"};
        String[] range = {"axis ^8 < 0", "axis ^99999 > 0", "still ^8", "event ^16", "event ^99999"};
        String[] token = {"axis 0 < ^100000", "axis 7 > ^100000", "axis ^100000 < 1", "still ^100000", "event ^100000", "axis ^-1 < 0",
            "axis 0 ^- 1", "axis 0 ^= 1", "axis 0 < ^< 1", "axis 0 < ^> 1", "^1", "^fire 1", "still ^event", "event 1^.1", "event ^1a"};
        for (String text : taken) {
            soundLock(text);
        }
        for (String text : range) {
            Check.faultyLock(text, 2);
        }
        for (String text : token) {
            Check.faultyLock(text, 1);
        }
    }

    private static void lockDepth() {
        soundLock(Check.many("!", 12) + "event 1");
        soundLock(Check.many("(", 12) + "event 1" + Check.many(")", 12));
        soundLock(Check.many("!(", 6) + "event 1" + Check.many(")", 6));
        soundLock(Check.many("!", 12) + "event 1 | " + Check.many("!", 12) + "event 1 & " + Check.many("!", 12) + "event 1");
        soundLock(Check.many("(", 12) + "event 1" + Check.many(")", 12) + "&!event 1");
        soundLock("(" + Check.many("!", 11) + "event 1 & " + Check.many("!", 11) + "event 1)");
        Check.faultyLock(Check.many("!", 12) + "^!event 1", 2);
        Check.faultyLock(Check.many("!", 12) + "^(event 1)", 2);
        Check.faultyLock(Check.many("(", 12) + "^(event 1", 2);
        Check.faultyLock(Check.many("(", 12) + "^!event 1", 2);
        Check.faultyLock(Check.many("(!", 6) + "^(event 1", 2);
        Check.faultyLock(Check.many("(", 12) + "event 1 & ^!event 1", 2);
        Check.faultyLock(Check.many("(", 12) + "event 1 | ^(event 1", 2);
        Check.faultyLock("(" + Check.many("!", 11) + "event 1 & " + Check.many("!", 11) + "^!event 1)", 2);
        Check.faultyLock(Check.many("!", 12) + "^)", 1);
        Check.faultyLock(Check.many("!", 12) + "^", 1);
    }

    /** FIFTY_SEVEN is of 57 tokens: three may come yet. */
    private static void lockLength() {
        soundLock(FIFTY_SEVEN + "event 1");
        soundLock(FIFTY_SEVEN + "!event 1");
        soundLock("!" + FIFTY_SEVEN + "event 1");
        soundLock(FIFTY_SEVEN.substring(8) + "!!axis 1 < 1 \n");
        Check.faultyLock(FIFTY_SEVEN + "!!event ^1", 2);
        Check.faultyLock(FIFTY_SEVEN + "!!event ^16", 2);
        Check.faultyLock(FIFTY_SEVEN + "!!event ^1a", 1);
        Check.faultyLock(FIFTY_SEVEN + "!!event ^", 1);
        Check.faultyLock(FIFTY_SEVEN + "axis 1 < ^1", 2);
        Check.faultyLock(FIFTY_SEVEN + "axis 1 < ^event", 1);
        Check.faultyLock(FIFTY_SEVEN + "!!!^event 1", 2);
        Check.faultyLock(FIFTY_SEVEN + "!!!^events 1", 1);
        Check.faultyLock(FIFTY_SEVEN + "!!!^!event 1", 2);
        Check.faultyLock(FIFTY_SEVEN + "!event 1 ^| event 1", 2);
        Check.faultyLock(FIFTY_SEVEN + "!event 1 ^& event 1", 2);
        Check.faultyLock(FIFTY_SEVEN + "!event 1 ^event 1", 1);
        Check.faultyLock(FIFTY_SEVEN + "!event 1 ^)", 1);
        Check.faultyLock(FIFTY_SEVEN + "!event 1 ^?", 1);
        Check.faultyLock(FIFTY_SEVEN + "(event 1^)", 2);
        Check.faultyLock("(" + FIFTY_SEVEN + "event 1^)", 2);
        Check.faultyLock(FIFTY_SEVEN + "event 1 | ^event 1", 2);
    }

    private static void lockEnds() {
        soundLock(Check.many(" ", 3993) + "event 1");
        Check.faultyLock(Check.many(" ", 3993) + "event ^)", 1);
        Check.faultyLock(Check.many(" ", 3995) + "event^", 1);
        Check.faultyLock("^" + Check.many("9", 4000), 1);
        Check.faultyLock("^" + Check.many("z", 4000), 1);
        String[] texts = {"^", "  ^", "event^", "event 1 &^", "event 1 |^", "!^", "(^", "(event 1^", "axis^", "axis 1^", "axis 1 <^",
            "still ^", "event 1 ^)", "event 1 ^event 1", "(event 1) ^)", "(^)", "^)", "event 1 ^! event 1", "event 1 & ^& event 1",
            "event 1 | ^| event 1", "event 1 ^;", "(event 1 ^; )"};
        for (String text : texts) {
            Check.faultyLock(text, 1);
        }
    }

    private static void lockStays() {
        StageHouse x = new StageHouse();
        Check.due("lock of the last axis", Check.lock(x, 7, "event 1"), 0);
        Check.due("lock of the first axis", Check.lock(x, 0, "!event 1"), 0);
        String[] faulty = {"", "event", "event 16", "event 1 | event 2 ?", Check.many("!", 13) + "event 1", FIFTY_SEVEN + "axis 1 < 1"};
        for (String text : faulty) {
            Check.yes("a fault: " + text, Check.lock(x, 7, text) <= -10);
            x.event(1, true);
            Check.due("true as it was", x.axisAt(7, 6), 1);
            Check.due("another one's", x.axisAt(0, 6), 0);
            x.event(1, false);
            Check.due("false as it was", x.axisAt(7, 6), 0);
            Check.due("none was told", x.axisAt(6, 6), 1);
        }
        int[] none = {-1, 8, Integer.MIN_VALUE, Integer.MAX_VALUE};
        for (int n : none) {
            Check.due("no lock " + n, Check.lock(x, n, "event 2"), -1);
            Check.due("7 as it was", x.axisAt(7, 6), 0);
            Check.due("0 as it was", x.axisAt(0, 6), 1);
        }
        Check.due("told anew", Check.lock(x, 7, "!event 2"), 0);
        Check.due("is the new one", x.axisAt(7, 6), 1);
    }

    private static void ruleNumbers() {
        String[] taken = {"many 1", "many 10", "kind 0", "kind 3", "day 0", "day 6", "section 0", "section 7", "day 1, day 1, day 2",
            "many 1, kind 0, day 0, section 0, many 10, kind 3, day 6, section 7"};
        String[] range = {"many ^0", "many ^11", "kind ^4", "day ^7", "section ^8", "day 1, day ^7"};
        String[] token = {"many ^", "many ^-1", "kind ^100000", "^", "^,", "day 1, ^", "day 1, ^, day 1", "day 1 ^day 1", "^row 1", "^1"};
        for (String condition : taken) {
            soundRules(condition + ": % 100;", 1);
        }
        for (String condition : range) {
            Check.faultyRules(condition + ": % 100;", 2);
        }
        for (String condition : token) {
            Check.faultyRules(condition + ": % 100;", 1);
        }
        String[] changes = {"% 0", "% 200", "- 0", "- 99999", "+ 0", "+ 99999", "@ 0", "@ 99999"};
        String[] none = {"^", "^5", "^/ 5", "% ^", "% ^100000", "- ^100000", "+ ^100000", "@ ^100000", "- ^- 5", "% 5 ^5", "- ^a", "@ ^1a"};
        for (String change : changes) {
            soundRules("day 1: " + change + ";", 1);
        }
        Check.faultyRules("day 1: % ^201;", 2);
        Check.faultyRules("day 1: % ^99999;", 2);
        for (String change : none) {
            Check.faultyRules("day 1: " + change + ";", 1);
        }
    }

    private static void ruleCount() {
        soundRules("", 0);
        soundRules(" \n", 0);
        soundRules(TWENTY_RULES.substring(9), 19);
        soundRules(TWENTY_RULES, 20);
        soundRules(TWENTY_RULES + " ", 20);
        soundRules(Check.many("day 1,", 100) + "day 1:-1;", 1);
        Check.faultyRules(TWENTY_RULES + "^day 1:-1;", 2);
        Check.faultyRules(TWENTY_RULES + "^many 0:-1;", 2);
        Check.faultyRules(TWENTY_RULES + " ^kind", 2);
        Check.faultyRules(TWENTY_RULES + "^section ?", 2);
        Check.faultyRules(TWENTY_RULES + "^sections 1:-1;", 1);
        Check.faultyRules(TWENTY_RULES + "^;", 1);
        Check.faultyRules(TWENTY_RULES + "^?", 1);
    }

    private static void ruleEnds() {
        String[] texts = {"day^", "day 1^", "day 1,^", "day 1:^", "day 1: %^", "day 1: % 1^", "day 1: % 1 \n^", "day 1: % 1; ^;",
            "day 1: % 1; day^", "^: % 1;", "day 1 ^% 1;", "day 1 ^; % 1;"};
        for (String text : texts) {
            Check.faultyRules(text, 1);
        }
    }

    private static void rulesStay() {
        StageHouse x = new StageHouse();
        x.section(0, 10);
        x.row(0, 0, 10);
        x.ask(0, 0, 2, 0, 1, 9);
        Check.rules(x, "day 1: - 1; day 1: - 2;");
        String[] faulty = {"?", "day", "day 7: - 9;", "day 1: - 9; day 1: - 9; day 1: - 9; day", TWENTY_RULES + "day 1: - 1;"};
        for (String text : faulty) {
            Check.yes("a fault: " + text, Check.rules(x, text) <= -10);
            Check.due("rules as they were behind: " + text, x.hold(0, 3), 17);
        }
        Check.due("twenty", Check.rules(x, TWENTY_RULES.substring(9) + "day 1: + 25;"), 20);
        Check.due("the last one counts too", x.hold(0, 3), 26);
        Check.due("none", Check.rules(x, ""), 0);
        Check.due("no rules any more", x.hold(0, 3), 20);
    }

    private static void shareNumbers() {
        String[] taken = {"0: 0;", "2: 99999;", "1: 0 % of taken;", "1: 100 % of taken;", "1: 0 % of 0;", "1: 100 % of 2;", "0: 101;",
            "0: 100 + 101;"};
        String[] range = {"^3: 0;", "^99999: 0;", "1: ^101 % of taken;", "1: ^101 % of 0;", "1: ^99999 % of 0;", "1: 100 % of ^3;",
            "1: ^101 %", "1: ^101 % ?", "1: 1 + ^101 % of taken;"};
        String[] token = {"^100000: 0;", "0: ^100000;", "1: 100 % of ^100000;", "1: ^100000 % of 1;", "^-1: 0;", "0: ^-1;",
            "1: 100 ^of taken;", "1: 100 % ^taken;", "1: 100 % of ^take;", "1: 100 % of ^;", "1: 101 ^of taken;", "1: ^taken;", "1: ^% of 0;"};
        for (String text : taken) {
            soundShares(text, 1);
        }
        for (String text : range) {
            Check.faultyShares(text, 2);
        }
        for (String text : token) {
            Check.faultyShares(text, 1);
        }
    }

    private static void shareCount() {
        soundShares("", 0);
        soundShares("0: 1; 1: 1;", 2);
        soundShares("0: 1; 1: 1; 2: 1;", 3);
        soundShares("2: 1; 1: 1; 0: 1; \n", 3);
        for (int p = 0; p < 3; p++) {
            Check.faultyShares(p + ": 1; ^" + p + ": 1;", 3);
            Check.faultyShares(p + ": 1; ^" + p + " ?", 3);
            Check.faultyShares(p + ": 1; " + (p + 1) % 3 + ": 1; ^" + p + ": 1;", 3);
            Check.faultyShares("0: 1; 1: 1; 2: 1; ^" + p + ": 1;", 3);
        }
        Check.faultyShares("0: 1; 1: 1; 2: 1; ^3: 1;", 2);
        Check.faultyShares("0: 1; 1: 1; 2: 1; ^?", 1);
        soundShares("0: 1 + 1 + 1 + 1;", 1);
        soundShares("0: 1 % of 0 + 1 % of taken + 1 + 1 % of 2; 1: 1 + 1 + 1 + 1; 2: 1 + 1 + 1 + 1;", 3);
        Check.faultyShares("0: 1 + 1 + 1 + 1 + ^1;", 2);
        Check.faultyShares("0: 1 + 1 + 1 + 1 + ^101 % of taken;", 2);
        Check.faultyShares("0: 1 + 1 + 1 + 1 + ^1a;", 1);
        Check.faultyShares("0: 1 + 1 + 1 + 1 + ^;", 1);
        Check.faultyShares("0: 1 + 1 + 1 + 1 + ^", 1);
        Check.faultyShares("0: 1; 1: 1 + 1 % of 0 + 1 % of taken + 1 + ^1 % of 0;", 2);
    }

    private static void shareEnds() {
        String[] texts = {"0^", "0:^", "0: 1^", "0: 1 +^", "0: 1 %^", "0: 1 % of^", "0: 1 % of taken^", "0: 1; \n^;", "0 ^1;", "^: 1;",
            "0: ^;", "0: ^+ 1;", "0: 1 ^- 1;", "0: 1 ^1;"};
        for (String text : texts) {
            Check.faultyShares(text, 1);
        }
    }

    private static void sharesStay() {
        StageHouse x = new StageHouse();
        Check.shares(x, "0: 5; 2: 7;");
        String[] faulty = {"?", "0: 6; 0", "0: 6; 1: 1; 3: 1;", "0: 6; 1", "0: 1 + 1 + 1 + 1 + 1;"};
        for (String text : faulty) {
            Check.yes("a fault: " + text, Check.shares(x, text) <= -10);
            Check.due("party 0 behind: " + text, x.share(0, 0), 5);
            Check.due("party 1 behind: " + text, x.share(1, 0), 0);
            Check.due("party 2 behind: " + text, x.share(2, 0), 7);
        }
        Check.due("told anew", Check.shares(x, "1: 1;"), 1);
        Check.due("not named any more", x.share(0, 0), 0);
        Check.due("named", x.share(1, 0), 1);
    }
}
