import java.util.ArrayList;
import java.util.LinkedHashMap;
import java.util.List;
import java.util.Map;
import java.util.Set;
import java.util.regex.Matcher;
import java.util.regex.Pattern;

/**
 * Reads a COURT another way than the class does: it goes on behind a FAULT, gathers all that it meets
 * up to the first one of FORM, and picks the first from the left, of one place the least number.
 */
final class OracleText {
    static final Set<String> RESERVED =
        Set.of("court", "word", "king", "queen", "chance", "throne", "unsure", "said");
    private static final Pattern TOKEN = Pattern.compile("([a-z]+)|([0-9]+)|([;,])");

    record Token(String text, int place, char kind) { }

    final List<Token> tokens = new ArrayList<>();
    final List<int[]> faults = new ArrayList<>();
    final List<String> kinds = new ArrayList<>();
    final Map<String, Integer> names = new LinkedHashMap<>();
    final List<Map<Integer, Integer>> parts = new ArrayList<>();
    final Map<Integer, Integer> worths = new LinkedHashMap<>();
    final Map<Integer, Integer> unsure = new LinkedHashMap<>();
    final Map<String, Integer> lines = new LinkedHashMap<>();
    int slips;
    int throne = -1;
    int said = -1;
    private int at;

    /** Stops the reading; where it is thrown the FAULT of FORM has been noted. */
    private static final class Form extends Exception {
        private static final long serialVersionUID = 1L;
    }

    OracleText(String text) {
        cut(text);
        try {
            line();
            while (peek().kind == ';') {
                at++;
                line();
            }
            if (peek().kind != '$') {
                form();
            }
            if (worths.isEmpty()) {
                note(peek(), 6);
            }
        } catch (Form e) {
            // noted
        }
        faults.sort((a, b) -> a[0] != b[0] ? a[0] - b[0] : a[1] - b[1]);
        if (throne < 0) {
            throne = kinds.size() - 1;
        }
    }

    int fault() {
        return faults.isEmpty() ? 0 : faults.get(0)[1];
    }

    int place() {
        return faults.isEmpty() ? -1 : faults.get(0)[0];
    }

    private void cut(String text) {
        Matcher matcher = TOKEN.matcher(text);
        int from = 0;
        while (from < text.length()) {
            if (text.charAt(from) == ' ') {
                from++;
            } else if (matcher.find(from) && matcher.start() == from) {
                tokens.add(token(matcher, from));
                from = matcher.end();
            } else {
                tokens.add(new Token("", from, '?'));
                from++;
            }
        }
        tokens.add(new Token("", text.length(), '$'));
    }

    private static Token token(Matcher matcher, int from) {
        String text = matcher.group();
        if (matcher.group(1) != null) {
            return new Token(text, from, text.length() > 8 ? '?' : 'w');
        }
        if (matcher.group(2) != null) {
            return new Token(text, from, text.length() > 3 ? '?' : 'n');
        }
        return new Token(text, from, text.charAt(0));
    }

    private Token peek() {
        return tokens.get(at);
    }

    private void note(Token token, int number) {
        faults.add(new int[] {token.place, number});
    }

    private void form() throws Form {
        note(peek(), 1);
        throw new Form();
    }

    private Token take(char kind) throws Form {
        if (peek().kind != kind) {
            form();
        }
        return tokens.get(at++);
    }

    private void key(String key) throws Form {
        if (!peek().text.equals(key)) {
            form();
        }
        at++;
    }

    private int whole(int least, int most) throws Form {
        Token token = take('n');
        int whole = Integer.parseInt(token.text);
        if (whole < least || whole > most) {
            note(token, 4);
        }
        return whole;
    }

    private Token name() throws Form {
        if (RESERVED.contains(peek().text)) {
            form();
        }
        return take('w');
    }

    /** The NODE of a NAME told ahead; 999 stands for one that isn't. */
    private int node() throws Form {
        Token token = name();
        if (!names.containsKey(token.text)) {
            note(token, 2);
            return 999;
        }
        return names.get(token.text);
    }

    private void line() throws Form {
        Token first = peek();
        if (!RESERVED.contains(first.text)) {
            form();
        }
        at++;
        if (!first.text.equals("court") && !lines.containsKey("court")) {
            note(first, 6);
        }
        int before = lines.getOrDefault(first.text, 0);
        lines.put(first.text, before + 1);
        switch (first.text) {
            case "court" -> {
                once(first, before);
                key("slips");
                slips = whole(0, 100);
            }
            case "word" -> {
                room(first, before, 10);
                Token name = newName();
                key("worth");
                worths.put(kinds.size(), whole(0, 99));
                tell(name, "word", new LinkedHashMap<>());
            }
            case "throne" -> {
                once(first, before);
                throne = node();
            }
            case "said" -> {
                once(first, before);
                said = whole(0, 99);
            }
            case "unsure" -> {
                room(first, before, 4);
                unsureLine();
            }
            default -> rulerLine(first, before);
        }
    }

    private void once(Token first, int before) {
        if (before > 0) {
            note(first, 3);
        }
    }

    private void room(Token first, int before, int room) {
        if (before >= room) {
            note(first, 5);
        }
    }

    private Token newName() throws Form {
        Token name = name();
        if (names.containsKey(name.text)) {
            note(name, 3);
        }
        return name;
    }

    private void tell(Token name, String kind, Map<Integer, Integer> itsParts) {
        names.put(name.text, kinds.size());
        kinds.add(kind);
        parts.add(itsParts);
    }

    private void unsureLine() throws Form {
        Token name = peek();
        int word = node();
        if (word != 999 && !kinds.get(word).equals("word")) {
            note(name, 2);
        }
        if (unsure.containsKey(word)) {
            note(name, 3);
        }
        unsure.put(word, whole(0, 99));
    }

    private void rulerLine(Token first, int before) throws Form {
        int rulers = lines.getOrDefault("king", 0) + lines.getOrDefault("queen", 0) + lines.getOrDefault("chance", 0);
        room(first, rulers - 1, 8);
        boolean chance = first.text.equals("chance");
        room(first, chance ? before : 0, 2);
        Token name = newName();
        Map<Integer, Integer> itsParts = new LinkedHashMap<>();
        boolean more = true;
        for (int i = 0; more; i++) {
            Token partName = peek();
            int part = node();
            if (itsParts.containsKey(part)) {
                note(partName, 3);
            }
            if (i >= 4) {
                note(partName, 5);
            }
            itsParts.put(part, chance ? whole(1, 9) : 0);
            more = peek().kind == ',';
            at += more ? 1 : 0;
        }
        tell(name, first.text, itsParts);
    }
}
