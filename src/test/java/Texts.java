import java.util.ArrayList;
import java.util.Collections;
import java.util.List;
import java.util.Random;

/** Texts by chance, always the same for the same seed: of courts, and of what nearly is one. */
final class Texts {
    private final Random random;

    Texts(Random random) {
        this.random = random;
    }

    /** A court with up to so many words and counsels. */
    String court(int mostWords, int mostRulers) {
        List<String> lines = new ArrayList<>();
        List<String> names = new ArrayList<>();
        List<String> words = new ArrayList<>();
        int wordsLeft = random.nextInt(3) == 0 ? mostWords : 1 + random.nextInt(mostWords);
        int rulersLeft = random.nextInt(3) == 0 ? mostRulers : random.nextInt(mostRulers + 1);
        int chancesLeft = 2;
        lines.add("court slips " + random.nextInt(101));
        while (wordsLeft + rulersLeft > 0) {
            String name = newName(names.size());
            boolean word = names.isEmpty() || wordsLeft > 0 && (rulersLeft == 0 || random.nextInt(10) < 7);
            if (word) {
                lines.add("word " + name + " worth " + worth());
                words.add(name);
                wordsLeft--;
            } else {
                boolean chance = chancesLeft > 0 && random.nextInt(4) == 0;
                chancesLeft -= chance ? 1 : 0;
                rulersLeft--;
                lines.add(ruler(chance, name, names));
            }
            names.add(name);
        }
        if (random.nextInt(3) == 0) {
            lines.add("throne " + names.get(random.nextInt(names.size())));
        }
        addUnsure(lines, words);
        return joined(lines);
    }

    private void addUnsure(List<String> lines, List<String> words) {
        List<String> shuffled = new ArrayList<>(words);
        Collections.shuffle(shuffled, random);
        int unsure = Math.min(random.nextInt(5), words.size());
        for (int i = 0; i < unsure; i++) {
            lines.add("unsure " + shuffled.get(i) + " " + worth());
        }
        if (random.nextInt(3) == 0) {
            lines.add("said " + worth());
        }
    }

    private int worth() {
        int sort = random.nextInt(4);
        return sort == 0 ? random.nextInt(2) * 99 : sort == 1 ? random.nextInt(10) * 10 : random.nextInt(100);
    }

    /** Later NODES are taken oftener, so that ways get long. */
    private String ruler(boolean chance, String name, List<String> names) {
        StringBuilder line = new StringBuilder(chance ? "chance " : random.nextBoolean() ? "king " : "queen ");
        List<String> parts = new ArrayList<>();
        int many = Math.min(names.size(), 1 + random.nextInt(4));
        while (parts.size() < many) {
            int back = random.nextInt(random.nextBoolean() ? Math.min(4, names.size()) : names.size());
            String part = names.get(names.size() - 1 - back);
            if (!parts.contains(part)) {
                parts.add(part);
            } else if (random.nextInt(8) == 0) {
                break;
            }
        }
        line.append(name);
        for (int i = 0; i < parts.size(); i++) {
            line.append(i == 0 ? " " : ", ").append(parts.get(i));
            line.append(chance ? " " + (1 + random.nextInt(9)) : "");
        }
        return line.toString();
    }

    private String newName(int number) {
        String letter = String.valueOf((char) ('a' + number));
        int sort = random.nextInt(12);
        return sort == 0 ? letter.repeat(8) : sort == 1 ? letter + letter : letter;
    }

    private String joined(List<String> lines) {
        StringBuilder text = new StringBuilder();
        for (int i = 0; i < lines.size(); i++) {
            text.append(i == 0 ? "" : random.nextInt(9) == 0 ? " ; " : ";").append(lines.get(i));
        }
        return text.toString();
    }

    private static final List<String> PIECES = List.of("court", "slips", "word", "worth", "king", "queen", "chance",
        "throne", "unsure", "said", "a", "b", "c", "d", "e", "f", "g", "zz", "abcdefgh", "abcdefghi", "0", "1", "9",
        "10", "50", "99", "100", "101", "007", "999", "1000", ";", ";", ",", ",", " ", "A", "-", "\n", "\u00e9", "$");

    private String piece() {
        return PIECES.get(random.nextInt(PIECES.size()));
    }

    /** A text of which some TOKENS have been changed, dropped, told again or put in between. */
    String spoiled(String text) {
        List<String> tokens = new ArrayList<>(List.of(text.replace(";", " ; ").replace(",", " , ").trim().split(" +")));
        int changes = 1 + random.nextInt(3);
        for (int i = 0; i < changes && !tokens.isEmpty(); i++) {
            int at = random.nextInt(tokens.size());
            switch (random.nextInt(6)) {
                case 0 -> tokens.set(at, piece());
                case 1 -> tokens.remove(at);
                case 2 -> tokens.add(at, piece());
                case 3 -> tokens.add(at, tokens.get(random.nextInt(tokens.size())));
                case 4 -> tokens.subList(at, tokens.size()).clear();
                default -> tellLineAgain(tokens, at);
            }
        }
        StringBuilder spoiled = new StringBuilder();
        for (String token : tokens) {
            spoiled.append(token).append(random.nextInt(30) == 0 ? "" : " ");
        }
        String all = spoiled.toString();
        return random.nextBoolean() ? all.trim() : all;
    }

    /** A whole LINE once more, with a new NAME at times. */
    private void tellLineAgain(List<String> tokens, int at) {
        int from = at;
        while (from > 0 && !tokens.get(from - 1).equals(";")) {
            from--;
        }
        int to = at;
        while (to < tokens.size() && !tokens.get(to).equals(";")) {
            to++;
        }
        List<String> line = new ArrayList<>(tokens.subList(from, to));
        if (line.size() > 1 && random.nextInt(3) > 0) {
            line.set(1, "new" + (char) ('a' + random.nextInt(26)));
        }
        tokens.add(";");
        tokens.addAll(line);
    }
}
