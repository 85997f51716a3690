import java.util.ArrayList;
import java.util.HashSet;
import java.util.List;
import java.util.Set;
import java.util.regex.Matcher;
import java.util.regex.Pattern;

/**
 * The four texts, read by the document's words another way than the class does: all tokens are made first, every
 * FAULT of a number or an order is noted and read over, and of all of them the first by its place is told.
 */
final class PlainReader {
    private static final Pattern TOKEN = Pattern.compile("(?<blank>[ \t\r\n]+)|(?<word>[a-z]+)|(?<number>[0-9]+)(?<tail>[a-z])?"
            + "|(?<sign>[{}();,.\\-:@/|&!<>+%])|(?<other>.)", Pattern.DOTALL);

    private static final class Token {
        char kind;
        String text;
        int place;
    }

    /** A token that can't stand there: nothing behind it is looked at. */
    private static final class Stop extends RuntimeException {
        private static final long serialVersionUID = 1L;
    }

    private final List<Token> tokens = new ArrayList<>();
    private final List<int[]> faults = new ArrayList<>();
    private int at = 0;
    private int parts = 0;

    private PlainReader(String text) {
        Matcher matcher = TOKEN.matcher(text);
        while (matcher.find()) {
            if (matcher.group("blank") != null) {
                continue;
            }
            if (matcher.group("word") != null) {
                add(matcher.group().length() <= 12 ? 'w' : 'b', matcher.group(), matcher.start());
            } else if (matcher.group("number") != null) {
                String bare = matcher.group("number").replaceFirst("^0+(?=.)", "");
                add(bare.length() <= 5 && matcher.group("tail") == null ? 'n' : 'b', bare, matcher.start());
            } else {
                add(matcher.group("sign") != null ? 's' : 'b', matcher.group(), matcher.start());
            }
        }
        add('e', "", text.length());
    }

    private void add(char kind, String text, int place) {
        Token token = new Token();
        token.kind = kind;
        token.text = text;
        token.place = place;
        tokens.add(token);
    }

    /** What the call answers, and the FAULT: for the texts "list", "lock", "rules" and "shares". */
    static int[] read(String which, String text) {
        PlainReader reader = new PlainReader(text);
        try {
            switch (which) {
                case "list":
                    reader.cues();
                    break;
                case "lock":
                    reader.lock();
                    break;
                case "rules":
                    reader.rules();
                    break;
                default:
                    reader.shares();
                    break;
            }
        } catch (Stop stop) {
            reader.parts = 0;
        }
        int[] first = null;
        for (int[] fault : reader.faults) {
            if (first == null || fault[0] < first[0] || fault[0] == first[0] && fault[1] < first[1]) {
                first = fault;
            }
        }
        return first == null ? new int[] {reader.parts, 0} : new int[] {-10 - first[0], first[1]};
    }

    private Token now() {
        return tokens.get(at);
    }

    private void note(Token token, int kind) {
        faults.add(new int[] {token.place, kind});
    }

    private boolean is(String text) {
        return (now().kind == 'w' || now().kind == 's') && now().text.equals(text);
    }

    private boolean take(String text) {
        if (!is(text)) {
            return false;
        }
        at++;
        return true;
    }

    private Stop stop() {
        note(now(), 1);
        return new Stop();
    }

    private void need(String text) {
        if (!take(text)) {
            throw stop();
        }
    }

    private int number() {
        if (now().kind != 'n') {
            throw stop();
        }
        return Integer.parseInt(tokens.get(at++).text);
    }

    private int number(int low, int high) {
        Token token = now();
        int n = number();
        if (n < low || n > high) {
            note(token, 2);
        }
        return n;
    }

    // ---- lists

    private void cues() {
        int acts = 0;
        int before = 0;
        while (now().kind != 'e') {
            if (parts == 60) {
                note(now(), 2);
            }
            need("cue");
            parts++;
            Token own = now();
            int noted = faults.size();
            int name = name();
            if (faults.size() == noted && name <= before) {
                note(own, 3);
            }
            before = name;
            options(new HashSet<>());
            need("{");
            while (!is("}")) {
                if (acts == 300) {
                    note(now(), 2);
                }
                act();
                acts++;
                need(";");
            }
            need("}");
        }
    }

    private int name() {
        int name = 100 * number(1, 999);
        return take(".") ? name + number(1, 99) : name;
    }

    private void options(Set<String> seen) {
        while (now().kind == 'w') {
            Token word = now();
            if (!seen.add(word.text)) {
                note(word, 3);
            }
            at++;
            switch (word.text) {
                case "up":
                case "down":
                case "wait":
                    number(0, 9999);
                    break;
                case "follow":
                    number(1, 9999);
                    break;
                case "block":
                    break;
                case "link":
                    name();
                    break;
                default:
                    at--;
                    throw stop();
            }
        }
    }

    private void act() {
        if (take("channels")) {
            do {
                int first = number(1, 64);
                if (take("-")) {
                    number(Math.max(1, first), 64);
                }
            } while (take(","));
            need("at");
            number(0, 255);
        } else if (take("axis")) {
            number(0, 7);
            need("to");
            number();
        } else if (take("let")) {
            number(0, 7);
        } else if (take("fire")) {
            number(0, 15);
        } else if (take("go")) {
            number(0, 3);
            name();
        } else {
            need("master");
            number(0, 3);
            need("at");
            number(0, 255);
        }
    }

    // ---- locks

    private void lock() {
        if (tokens.get(Math.min(60, tokens.size() - 1)).kind != 'e') {
            note(tokens.get(60), 2);
        }
        or(0);
        if (now().kind != 'e') {
            throw stop();
        }
    }

    private void or(int depth) {
        do {
            do {
                not(depth);
            } while (take("&"));
        } while (take("|"));
    }

    private void not(int depth) {
        if (is("!") || is("(")) {
            if (depth == 12) {
                note(now(), 2);
                throw new Stop();
            }
            if (take("!")) {
                not(depth + 1);
            } else {
                at++;
                or(depth + 1);
                need(")");
            }
        } else if (take("axis")) {
            number(0, 7);
            if (!take("<")) {
                need(">");
            }
            number();
        } else if (take("still")) {
            number(0, 7);
        } else {
            need("event");
            number(0, 15);
        }
    }

    // ---- rules

    private void rules() {
        while (now().kind != 'e') {
            if (parts == 20) {
                note(now(), 2);
            }
            do {
                condition();
            } while (take(","));
            need(":");
            if (take("%")) {
                number(0, 200);
            } else {
                if (!take("-") && !take("+")) {
                    need("@");
                }
                number();
            }
            need(";");
            parts++;
        }
    }

    private void condition() {
        if (take("many")) {
            number(1, 10);
        } else if (take("kind")) {
            number(0, 3);
        } else if (take("day")) {
            number(0, 6);
        } else {
            need("section");
            number(0, 7);
        }
    }

    // ---- shares

    private void shares() {
        Set<Integer> seen = new HashSet<>();
        while (now().kind != 'e') {
            Token head = now();
            int noted = faults.size();
            int p = number(0, 2);
            if (faults.size() == noted && !seen.add(p)) {
                note(head, 3);
            }
            need(":");
            int terms = 0;
            do {
                if (terms == 4) {
                    note(now(), 2);
                }
                term();
                terms++;
            } while (take("+"));
            need(";");
            parts++;
        }
    }

    private void term() {
        Token head = now();
        int n = number();
        if (take("%")) {
            if (n > 100) {
                note(head, 2);
            }
            need("of");
            if (!take("taken")) {
                number(0, 2);
            }
        }
    }
}
