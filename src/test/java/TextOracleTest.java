import java.util.ArrayList;
import java.util.List;
import java.util.Random;

/** Random texts, most of them with a fault or more, against the plain reader (promises 4 to 8). */
public final class TextOracleTest {
    private static final String[] KINDS = {"list", "lock", "rules", "shares"};
    private static final String[] WORDS = {"cue", "up", "down", "wait", "follow", "block", "link", "channels", "at", "axis", "to",
        "let", "fire", "go", "master", "still", "event", "many", "kind", "day", "section", "of", "taken", "a", "cu", "cues",
        "abcdefghijkl", "abcdefghijklm", "Cue"};
    private static final String[] SIGNS = {"{", "}", "(", ")", ";", ",", ".", "-", ":", "@", "/", "|", "&", "!", "<", ">", "+", "%"};
    private static final String[] NUMBERS = {"0", "1", "2", "3", "4", "6", "7", "8", "10", "11", "15", "16", "64", "65", "99", "100",
        "101", "200", "201", "255", "256", "999", "1000", "9999", "10000", "99999", "100000", "000001", "0000000000000000007",
        "99999999999999999999", "7a", "7.", "4 2"};
    private static final String[] BLANKS = {" ", "  ", "\t", "\r\n", "\n"};
    private static final String OTHERS = "AZ_#\"'\\^~`*=?[]$\u0000\u001f\u007f\u0080\u00ff\u000b";

    private final Random random;
    private final List<String> text = new ArrayList<>();

    private TextOracleTest(int seed) {
        random = new Random(seed);
    }

    public static void main(String[] args) {
        int[] seen = new int[4];
        for (int seed = 0; seed < 6000; seed++) {
            for (int kind = 0; kind < 4; kind++) {
                seen[new TextOracleTest(seed * 4 + kind).compare(KINDS[kind])]++;
            }
        }
        for (int fault = 0; fault < 4; fault++) {
            Check.yes("texts with fault " + fault, seen[fault] > 300);
        }
        Check.end();
    }

    private int compare(String kind) {
        make(kind);
        for (int faults = random.nextInt(4); faults > 0; faults--) {
            spoil();
        }
        String told = spell();
        int[] want = PlainReader.read(kind, told);
        StageHouse x = new StageHouse();
        Check.promise(kind.equals("list") ? 4 : kind.equals("lock") ? 5 : kind.equals("rules") ? 6 : 7);
        Check.due(kind + " of " + told, tell(x, kind, told), want[0]);
        Check.promise(8);
        Check.due("fault of " + kind + " " + told, x.fault(), want[1]);
        Check.promise(0);
        return want[1];
    }

    private static int tell(StageHouse x, String kind, String told) {
        switch (kind) {
            case "list":
                return Check.list(x, 2, told);
            case "lock":
                return Check.lock(x, 5, told);
            case "rules":
                return Check.rules(x, told);
            default:
                return Check.shares(x, told);
        }
    }

    /** Signs need no blank beside them, and a word and a number none between them. */
    private String spell() {
        StringBuilder all = new StringBuilder();
        for (int i = 0; i < text.size(); i++) {
            String one = text.get(i);
            boolean touches = all.length() > 0 && one.length() > 0 && Character.isLetterOrDigit(all.charAt(all.length() - 1))
                    && Character.isLetterOrDigit(one.charAt(0));
            if (touches ? random.nextInt(60) > 0 : random.nextInt(3) == 0) {
                all.append(any(BLANKS));
            }
            all.append(one);
        }
        if (random.nextInt(4) == 0) {
            all.append(any(BLANKS));
        }
        if (random.nextInt(6) == 0 && all.length() > 0) {
            all.setCharAt(random.nextInt(all.length()), OTHERS.charAt(random.nextInt(OTHERS.length())));
        }
        return all.length() > 4000 ? all.substring(0, 4000) : all.toString();
    }

    private void spoil() {
        int place = random.nextInt(text.size() + 1);
        int how = random.nextInt(8);
        if (how == 0) {
            text.add(place, any(WORDS));
        } else if (how == 1) {
            text.add(place, any(SIGNS));
        } else if (how == 2) {
            text.add(place, any(NUMBERS));
        } else if (place < text.size()) {
            String old = text.get(place);
            if (how == 3) {
                text.remove(place);
            } else if (how == 4) {
                text.add(place, old);
            } else if (Character.isDigit(old.charAt(0))) {
                text.set(place, any(NUMBERS));
            } else {
                text.set(place, Character.isLetter(old.charAt(0)) ? any(WORDS) : any(SIGNS));
            }
        }
    }

    private String any(String[] all) {
        return all[random.nextInt(all.length)];
    }

    private void add(Object... parts) {
        for (Object part : parts) {
            text.add(String.valueOf(part));
        }
    }

    private int any(int low, int high) {
        return low + random.nextInt(high - low + 1);
    }

    private void make(String kind) {
        if (kind.equals("list")) {
            cues();
        } else if (kind.equals("lock")) {
            lock(0, random.nextInt(4) == 0);
        } else if (kind.equals("rules")) {
            rules();
        } else {
            shares();
        }
    }

    private void cues() {
        boolean full = random.nextInt(20) == 0;
        int count = full ? any(59, 61) : random.nextInt(6);
        int acts = full || random.nextInt(20) > 0 ? 3 : 310;
        int name = 0;
        for (int i = 0; i < count; i++) {
            name += any(0, 12) == 0 ? 0 : any(1, 150);
            add("cue", Math.max(1, name / 100));
            if (name % 100 > 0) {
                add(".", name % 100);
            }
            for (int o = random.nextInt(4); o > 0; o--) {
                option();
            }
            add("{");
            for (int a = random.nextInt(acts + 1); a > 0; a--) {
                if (acts > 3) {
                    add("let", any(0, 7), ";");
                } else {
                    act();
                }
            }
            add("}");
        }
    }

    private void option() {
        int which = random.nextInt(6);
        if (which < 3) {
            add(new String[] {"up", "down", "wait"}[which], any(0, 9999));
        } else if (which == 3) {
            add("follow", any(1, 9999));
        } else if (which == 4) {
            add("block");
        } else {
            add("link", any(1, 999));
        }
    }

    private void act() {
        int which = random.nextInt(6);
        if (which == 0) {
            add("channels");
            int more = random.nextInt(3);
            for (int i = 0; i <= more; i++) {
                int first = any(1, 64);
                add(first);
                if (random.nextBoolean()) {
                    add("-", random.nextInt(9) == 0 ? any(1, 64) : any(first, 64));
                }
                if (i < more) {
                    add(",");
                }
            }
            add("at", any(0, 255));
        } else if (which == 1) {
            add("axis", any(0, 7), "to", any(0, 99999));
        } else if (which < 4) {
            add(which == 2 ? "let" : "fire", any(0, 7));
        } else if (which == 4) {
            add("go", any(0, 3), any(1, 999), ".", any(1, 99));
        } else {
            add("master", any(0, 3), "at", any(0, 255));
        }
        add(";");
    }

    private void lock(int depth, boolean deep) {
        int kind = random.nextInt(deep ? 6 : 12);
        if (depth < 14 && kind == 0) {
            add("!");
            lock(depth + 1, deep);
        } else if (depth < 14 && kind < 5 && deep || kind == 1) {
            boolean closes = random.nextInt(3) > 0;
            add(closes ? "(" : "!");
            lock(depth + 1, deep);
            if (closes) {
                add(")");
            }
        } else if (kind % 3 == 0) {
            add("axis", any(0, 7), random.nextBoolean() ? "<" : ">", any(0, 99999));
        } else {
            add(kind % 3 == 1 ? "still" : "event", any(0, 7));
        }
        while (random.nextInt(3) == 0 && text.size() < 70) {
            add(random.nextBoolean() ? "&" : "|");
            lock(depth, false);
        }
    }

    private void rules() {
        int count = random.nextInt(8) == 0 ? any(19, 21) : random.nextInt(6);
        for (int i = 0; i < count; i++) {
            int more = random.nextInt(4);
            for (int c = 0; c <= more; c++) {
                int which = random.nextInt(4);
                add(new String[] {"many", "kind", "day", "section"}[which], which == 0 ? any(1, 10) : any(0, 3 + which));
                add(c < more ? "," : ":");
            }
            add(new String[] {"%", "-", "+", "@"}[random.nextInt(4)], any(0, 200), ";");
        }
    }

    private void shares() {
        int first = random.nextInt(3);
        int count = random.nextInt(12) == 0 ? 4 : random.nextInt(4);
        for (int i = 0; i < count; i++) {
            add((first + i) % 3, ":");
            int more = random.nextInt(8) == 0 ? 4 : random.nextInt(4);
            for (int t = 0; t <= more; t++) {
                int which = random.nextInt(3);
                if (which == 0) {
                    add(any(0, 99999));
                } else {
                    add(any(0, 100), "%", "of", which == 1 ? "taken" : any(0, 2));
                }
                add(t < more ? "+" : ";");
            }
        }
    }
}
