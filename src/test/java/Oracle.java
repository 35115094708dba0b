import java.util.ArrayDeque;
import java.util.ArrayList;
import java.util.Collections;
import java.util.Deque;
import java.util.LinkedHashMap;
import java.util.List;
import java.util.Map;
import java.util.NoSuchElementException;
import java.util.TreeSet;

/** The document once more, as plainly as can be and slowly: what KingHears answers is held against it. */
final class Oracle {
    record State(Map<Integer, Integer> worths, List<List<Integer>> orders) {
        State copy() {
            List<List<Integer>> copies = new ArrayList<>();
            for (List<Integer> order : orders) {
                copies.add(new ArrayList<>(order));
            }
            return new State(new LinkedHashMap<>(worths), copies);
        }
    }

    private final StringBuilder tape = new StringBuilder();
    private OracleText told;
    private State now;
    private final Deque<State> undos = new ArrayDeque<>();
    private final List<State> images = new ArrayList<>();
    private int trouble;
    private int fault;
    private int place;
    private List<Integer> words = new ArrayList<>();
    private List<Integer> cutOnes = new ArrayList<>();

    // ---- refusals: a call that may be refused is begun with one of these

    private boolean refused(boolean none, boolean number) {
        trouble = told == null || none ? 1 : number ? 2 : 0;
        return trouble != 0;
    }

    private boolean noNode(int k) {
        return told == null || k < 0 || k >= told.kinds.size();
    }

    private boolean noWord(int k) {
        return noNode(k) || !told.worths.containsKey(k);
    }

    private static boolean out(int number, int least, int most) {
        return number < least || number > most;
    }

    // ---- the court

    public int feed(int a, int b, int c, int d, int e) {
        if (tape.length() + 20 > 900) {
            return -1;
        }
        for (int number : new int[] {a, b, c, d, e}) {
            for (int i = 3; i >= 0; i--) {
                tape.append((char) (number >>> 8 * i & 255));
            }
        }
        return tape.length();
    }

    public int court(int n) {
        if (n < 0 || n > tape.length()) {
            trouble = 2;
            return -1;
        }
        OracleText read = new OracleText(tape.substring(0, n));
        tape.setLength(0);
        fault = read.fault();
        place = read.place();
        trouble = fault == 0 ? 0 : 4;
        if (fault != 0) {
            return -1;
        }
        told = read;
        List<List<Integer>> orders = new ArrayList<>();
        for (Map<Integer, Integer> parts : read.parts) {
            orders.add(new ArrayList<>(parts.keySet()));
        }
        now = new State(new LinkedHashMap<>(read.worths), orders);
        undos.clear();
        images.clear();
        return read.kinds.size();
    }

    public int fault() {
        return fault;
    }

    public int where() {
        return trouble == 4 ? place : -1;
    }

    // ---- now

    public int node(int k, int what) {
        if (refused(noNode(k) || out(what, 0, 4), false)) {
            return -1;
        }
        return switch (what) {
            case 0 -> List.of("word", "king", "queen", "chance").indexOf(told.kinds.get(k));
            case 1 -> told.parts.get(k).size();
            case 2 -> height(k);
            case 3 -> bits(wordsBelow(k));
            default -> bits(told.kinds.size() == 0 ? new TreeSet<>() : parents(k));
        };
    }

    private int height(int k) {
        int height = 0;
        for (int part : told.parts.get(k).keySet()) {
            height = Math.max(height, 1 + height(part));
        }
        return height;
    }

    private TreeSet<Integer> wordsBelow(int k) {
        TreeSet<Integer> below = new TreeSet<>();
        if (told.worths.containsKey(k)) {
            below.add(k);
        }
        for (int part : told.parts.get(k).keySet()) {
            below.addAll(wordsBelow(part));
        }
        return below;
    }

    private TreeSet<Integer> parents(int k) {
        TreeSet<Integer> parents = new TreeSet<>();
        for (int p = 0; p < told.kinds.size(); p++) {
            if (told.parts.get(p).containsKey(k)) {
                parents.add(p);
            }
        }
        return parents;
    }

    private static int bits(Iterable<Integer> nodes) {
        int bits = 0;
        for (int node : nodes) {
            bits |= 1 << node;
        }
        return bits;
    }

    public int part(int k, int i) {
        return refused(noNode(k) || out(i, 0, now.orders.get(k).size() - 1), false) ? -1 : now.orders.get(k).get(i);
    }

    public int weight(int k, int part) {
        boolean none = noNode(k) || !told.kinds.get(k).equals("chance") || !told.parts.get(k).containsKey(part);
        return refused(none, false) ? -1 : told.parts.get(k).get(part);
    }

    public int throne() {
        return refused(false, false) ? -1 : told.throne;
    }

    private Frac value(int k, Map<Integer, Integer> worths) {
        return value(k, worths, 99);
    }

    /** By so many steps down as are left. */
    private Frac value(int k, Map<Integer, Integer> worths, int left) {
        if (told.worths.containsKey(k)) {
            return Frac.of(worths.get(k));
        }
        if (left == 0) {
            return Frac.of(50);
        }
        List<Frac> values = new ArrayList<>();
        Frac sum = Frac.of(0);
        int weights = 0;
        for (Map.Entry<Integer, Integer> part : told.parts.get(k).entrySet()) {
            Frac value = value(part.getKey(), worths, left - 1);
            values.add(value);
            sum = sum.plus(value.times(Frac.of(part.getValue())));
            weights += part.getValue();
        }
        return switch (told.kinds.get(k)) {
            case "king" -> Collections.max(values);
            case "queen" -> Collections.min(values);
            default -> sum.times(Frac.of(1, weights));
        };
    }

    public long worth(int k, boolean lower) {
        return refused(noNode(k), false) ? -1 : value(k, now.worths).told(lower);
    }

    private int bestOf(int k) {
        if (told.kinds.get(k).equals("king") || told.kinds.get(k).equals("queen")) {
            for (int part : now.orders.get(k)) {
                if (value(part, now.worths).equals(value(k, now.worths))) {
                    return part;
                }
            }
        }
        return -2;
    }

    public int best(int k) {
        return refused(noNode(k), false) ? -1 : bestOf(k);
    }

    private List<Integer> lineOf() {
        List<Integer> line = new ArrayList<>();
        for (int k = told.throne; k >= 0; k = bestOf(k)) {
            line.add(k);
        }
        return line;
    }

    public int line() {
        return refused(false, false) ? -1 : lineOf().size();
    }

    public int lineAt(int i) {
        return refused(told == null || out(i, 0, lineOf().size() - 1), false) ? -1 : lineOf().get(i);
    }

    // ---- hearing

    private int ways(int k) {
        int ways = told.worths.containsKey(k) ? 1 : 0;
        for (int part : told.parts.get(k).keySet()) {
            ways += ways(part);
        }
        return ways;
    }

    public int whole() {
        return refused(false, false) ? -1 : ways(told.throne);
    }

    private static final Frac BELOW = Frac.of(-1000);
    private static final Frac ABOVE = Frac.of(1000);

    private int breaths(State state) {
        hear(state, BELOW, ABOVE);
        return words.size();
    }

    private Frac hear(State state, Frac low, Frac high) {
        words = new ArrayList<>();
        cutOnes = new ArrayList<>();
        return hear(told.throne, state, low, high);
    }

    private Frac hear(int k, State state, Frac low, Frac high) {
        String kind = told.kinds.get(k);
        List<Integer> order = state.orders.get(k);
        if (kind.equals("word")) {
            words.add(k);
            return Frac.of(state.worths.get(k));
        }
        if (kind.equals("chance")) {
            Frac sum = Frac.of(0);
            long weights = 0;
            for (int part : order) {
                int weight = told.parts.get(k).get(part);
                sum = sum.plus(hear(part, state, BELOW, ABOVE).times(Frac.of(weight)));
                weights += weight;
            }
            return sum.times(Frac.of(1, weights));
        }
        boolean king = kind.equals("king");
        Frac sofar = king ? BELOW : ABOVE;
        for (int i = 0; i < order.size(); i++) {
            Frac came = king
                ? hear(order.get(i), state, Collections.max(List.of(low, sofar)), high)
                : hear(order.get(i), state, low, Collections.min(List.of(high, sofar)));
            sofar = king ? Collections.max(List.of(sofar, came)) : Collections.min(List.of(sofar, came));
            if (king ? sofar.atLeast(high) : low.atLeast(sofar)) {
                cutOnes.addAll(order.subList(i + 1, order.size()));
                break;
            }
        }
        return sofar;
    }

    public int hears() {
        return refused(false, false) ? -1 : breaths(now);
    }

    public int heardAt(int i) {
        return refused(told == null || out(i, 0, breaths(now) - 1), false) ? -1 : words.get(i);
    }

    public int heard() {
        if (refused(false, false)) {
            return -1;
        }
        breaths(now);
        return bits(words);
    }

    public int cuts() {
        if (refused(false, false)) {
            return -1;
        }
        breaths(now);
        return cutOnes.size();
    }

    public int cutAt(int i) {
        int cuts = cuts();
        return refused(out(i, 0, cuts - 1), false) ? -1 : cutOnes.get(i);
    }

    public int hearsIn(int low, int high) {
        if (refused(false, out(low, 0, 99) || out(high, 0, 99) || low >= high)) {
            return -1;
        }
        hear(now, Frac.of(low), Frac.of(high));
        return words.size();
    }

    public long handed(int low, int high, boolean lower) {
        if (refused(false, out(low, 0, 99) || out(high, 0, 99) || low >= high)) {
            return -1;
        }
        return hear(now, Frac.of(low), Frac.of(high)).told(lower);
    }

    // ---- narrow questions

    private boolean askAt(int k, Frac much) {
        switch (told.kinds.get(k)) {
            case "king":
                for (int part : now.orders.get(k)) {
                    if (askAt(part, much)) {
                        return true;
                    }
                }
                return false;
            case "queen":
                for (int part : now.orders.get(k)) {
                    if (!askAt(part, much)) {
                        return false;
                    }
                }
                return true;
            default:
                return hear(k, now, BELOW, ABOVE).atLeast(much);
        }
    }

    private boolean askFor(int much) {
        words = new ArrayList<>();
        return askAt(told.throne, Frac.of(much));
    }

    public int asks(int much) {
        return refused(false, out(much, 0, 99)) ? -1 : askFor(much) ? 1 : 0;
    }

    public int askBreaths(int much) {
        if (refused(false, out(much, 0, 99))) {
            return -1;
        }
        askFor(much);
        return words.size();
    }

    /** How many questions, how many breaths. */
    private int[] byHalves(int low, int high) {
        if (low == high) {
            return new int[2];
        }
        int middle = (int) Math.ceil((low + high) / 2.0);
        boolean so = askFor(middle);
        int heard = words.size();
        int[] behind = so ? byHalves(middle, high) : byHalves(low, middle - 1);
        return new int[] {behind[0] + 1, behind[1] + heard};
    }

    public int halves() {
        return refused(false, false) ? -1 : byHalves(0, 99)[1];
    }

    public int questions() {
        return refused(false, false) ? -1 : byHalves(0, 99)[0];
    }

    // ---- proofs

    interface Shown {
        boolean holds(Frac throne);
    }

    /** Whether it holds whatever the others are, tried with 0 and 99 in all ways. */
    private boolean shown(TreeSet<Integer> known, Shown shown) {
        List<Integer> others = new ArrayList<>(wordsBelow(told.throne));
        others.removeAll(known);
        for (int way = 0; way < 1 << others.size(); way++) {
            Map<Integer, Integer> worths = new LinkedHashMap<>(now.worths);
            for (int i = 0; i < others.size(); i++) {
                worths.put(others.get(i), (way >> i & 1) == 1 ? 99 : 0);
            }
            if (!shown.holds(value(told.throne, worths))) {
                return false;
            }
        }
        return true;
    }

    private int fewest(Shown shown) {
        List<Integer> all = new ArrayList<>(wordsBelow(told.throne));
        int best = -2;
        for (int way = 0; way < 1 << all.size(); way++) {
            TreeSet<Integer> known = new TreeSet<>();
            for (int i = 0; i < all.size(); i++) {
                if ((way >> i & 1) == 1) {
                    known.add(all.get(i));
                }
            }
            int bits = bits(known);
            boolean better = best < 0 || known.size() < Integer.bitCount(best)
                || known.size() == Integer.bitCount(best) && bits < best;
            if (better && shown(known, shown)) {
                best = bits;
            }
        }
        return best;
    }

    public int proof(int much) {
        return refused(false, out(much, 0, 100)) ? -1 : fewest(v -> v.atLeast(Frac.of(much)));
    }

    public int disproof(int much) {
        return refused(false, out(much, 0, 100)) ? -1 : fewest(v -> !v.atLeast(Frac.of(much)));
    }

    public int sure() {
        if (refused(false, false)) {
            return -1;
        }
        Frac is = value(told.throne, now.worths);
        return fewest(v -> v.equals(is));
    }

    // ---- orders

    private int breathsBy(int k, List<Integer> order) {
        State other = now.copy();
        other.orders.set(k, order);
        return breaths(other);
    }

    private static List<Integer> putFirst(List<Integer> order, int i) {
        List<Integer> other = new ArrayList<>(order);
        other.add(0, other.remove(i));
        return other;
    }

    public int first(int k) {
        if (refused(noNode(k), false)) {
            return -1;
        }
        int best = -2;
        int fewest = Integer.MAX_VALUE;
        for (int i = 0; i < now.orders.get(k).size(); i++) {
            int breaths = breathsBy(k, putFirst(now.orders.get(k), i));
            if (breaths < fewest) {
                fewest = breaths;
                best = now.orders.get(k).get(i);
            }
        }
        return best;
    }

    public int firstBreaths(int k) {
        int first = first(k);
        return first < 0 ? first : breathsBy(k, putFirst(now.orders.get(k), now.orders.get(k).indexOf(first)));
    }

    private static List<List<Integer>> allOrders(List<Integer> of) {
        if (of.isEmpty()) {
            return List.of(List.of());
        }
        List<List<Integer>> all = new ArrayList<>();
        for (int i = 0; i < of.size(); i++) {
            List<Integer> others = new ArrayList<>(of);
            int head = others.remove(i);
            for (List<Integer> tail : allOrders(others)) {
                List<Integer> order = new ArrayList<>(List.of(head));
                order.addAll(tail);
                all.add(order);
            }
        }
        return all;
    }

    private List<Integer> breathsOfOrders(int k) {
        List<Integer> breaths = new ArrayList<>();
        for (List<Integer> order : allOrders(now.orders.get(k))) {
            breaths.add(breathsBy(k, order));
        }
        return breaths;
    }

    public long orderMean(int k, boolean lower) {
        if (refused(noNode(k), false)) {
            return -1;
        }
        List<Integer> breaths = breathsOfOrders(k);
        long sum = 0;
        for (int each : breaths) {
            sum += each;
        }
        return Frac.of(sum, breaths.size()).told(lower);
    }

    public int orderLeast(int k) {
        return refused(noNode(k), false) ? -1 : Collections.min(breathsOfOrders(k));
    }

    // ---- nights, turns

    public long night(int d, boolean lower) {
        return refused(false, out(d, 0, 9)) ? -1 : value(told.throne, now.worths, d).told(lower);
    }

    public int settles() {
        if (refused(false, false)) {
            return -1;
        }
        int d = 12;
        while (d > 0 && value(told.throne, now.worths, d - 1).equals(value(told.throne, now.worths))) {
            d--;
        }
        return d;
    }

    private int turnOf(int k) {
        for (int change = 1; change <= 99; change++) {
            for (int worth : new int[] {now.worths.get(k) - change, now.worths.get(k) + change}) {
                Map<Integer, Integer> worths = new LinkedHashMap<>(now.worths);
                worths.put(k, worth);
                if (!out(worth, 0, 99) && !value(told.throne, worths).equals(value(told.throne, now.worths))) {
                    return change;
                }
            }
        }
        return -2;
    }

    public int turn(int k) {
        return refused(noWord(k), false) ? -1 : turnOf(k);
    }

    public int pivot() {
        if (refused(false, false)) {
            return -1;
        }
        int best = -2;
        int least = 1000;
        for (int k : told.worths.keySet()) {
            int turn = turnOf(k);
            if (turn >= 0 && turn < least) {
                best = k;
                least = turn;
            }
        }
        return best;
    }

    // ---- unsure words

    private List<Integer> unsureWords() {
        return new ArrayList<>(told.unsure.keySet());
    }

    private Frac valueBy(Map<Integer, Integer> base, int set) {
        Map<Integer, Integer> worths = new LinkedHashMap<>(base);
        for (int j = 0; j < told.unsure.size(); j++) {
            if ((set >> j & 1) == 1) {
                worths.put(unsureWords().get(j), told.unsure.get(unsureWords().get(j)));
            }
        }
        return value(told.throne, worths);
    }

    private List<Integer> fitting() {
        List<Integer> fitting = new ArrayList<>();
        for (int set = 0; set < 1 << told.unsure.size(); set++) {
            if (told.said < 0 || valueBy(told.worths, set).floor() == told.said) {
                fitting.add(set);
            }
        }
        return fitting;
    }

    public int fits() {
        return refused(false, false) ? -1 : fitting().size();
    }

    public int fitAt(int i) {
        return refused(told == null || out(i, 0, fitting().size() - 1), false) ? -1 : fitting().get(i);
    }

    public int could() {
        return refused(false, false) ? -1 : fitting().stream().reduce(0, (a, b) -> a | b);
    }

    public int surely() {
        return refused(false, false) ? -1 : fitting().stream().reduce((a, b) -> a & b).orElse(0);
    }

    /** The unsure word to ask for and how many are left, or -2 twice. */
    private int[] asking() {
        int[] best = {-2, -2};
        for (int j = 0; j < told.unsure.size() && !fitting().isEmpty(); j++) {
            int bit = j;
            int with = (int) fitting().stream().filter(set -> (set >> bit & 1) == 1).count();
            int left = Math.max(with, fitting().size() - with);
            if (best[0] < 0 || left < best[1]) {
                best = new int[] {unsureWords().get(j), left};
            }
        }
        return best;
    }

    public int ask() {
        return refused(false, false) ? -1 : asking()[0];
    }

    public int askLeaves() {
        return refused(false, false) ? -1 : asking()[1];
    }

    private Frac likely(int set) {
        Frac likely = Frac.of(1);
        for (int j = 0; j < told.unsure.size(); j++) {
            likely = likely.times(Frac.of((set >> j & 1) == 1 ? told.slips : 100 - told.slips, 100));
        }
        return likely;
    }

    public long odds(int much, boolean lower) {
        if (refused(false, out(much, 0, 99))) {
            return -1;
        }
        Frac sum = Frac.of(0);
        for (int set = 0; set < 1 << told.unsure.size(); set++) {
            if (valueBy(now.worths, set).atLeast(Frac.of(much))) {
                sum = sum.plus(likely(set));
            }
        }
        return sum.told(lower);
    }

    public long mean(boolean lower) {
        if (refused(false, false)) {
            return -1;
        }
        Frac sum = Frac.of(0);
        for (int set = 0; set < 1 << told.unsure.size(); set++) {
            sum = sum.plus(likely(set).times(valueBy(now.worths, set)));
        }
        return sum.told(lower);
    }

    // ---- a fool, a minister

    private static int[] shares(int envy, boolean fool, boolean minister) {
        if (fool && minister) {
            return new int[] {2 - envy, 2 - envy};
        }
        if (!fool && !minister) {
            return new int[] {1, 1};
        }
        return fool ? new int[] {5, -envy} : new int[] {-envy, 5};
    }

    public int speaks(int envy, boolean fool, boolean minister, boolean ofOther) {
        return refused(false, out(envy, 0, 9)) ? -100 : shares(envy, fool, minister)[ofOther ? 1 : 0];
    }

    private static List<Integer> allRests(int envy) {
        List<Integer> rests = new ArrayList<>();
        for (boolean fool : new boolean[] {false, true}) {
            for (boolean minister : new boolean[] {false, true}) {
                boolean foolCould = shares(envy, !fool, minister)[0] > shares(envy, fool, minister)[0];
                boolean ministerCould = shares(envy, fool, !minister)[1] > shares(envy, fool, minister)[1];
                if (!foolCould && !ministerCould) {
                    rests.add((fool ? 10 : 0) + (minister ? 1 : 0));
                }
            }
        }
        return rests;
    }

    public int rests(int envy) {
        return refused(false, out(envy, 0, 9)) ? -1 : allRests(envy).size();
    }

    public int rest(int envy) {
        return refused(false, out(envy, 0, 9)) ? -1 : allRests(envy).isEmpty() ? -2 : allRests(envy).get(0);
    }

    // ---- orders by draws

    private List<Integer> draws(int seed, int n) {
        List<Integer> breaths = new ArrayList<>();
        long at = seed;
        for (int i = 0; i < n; i++) {
            State other = now.copy();
            for (int k = 0; k < told.kinds.size(); k++) {
                if (!told.parts.get(k).isEmpty()) {
                    at = (75 * at + 74) % 65537;
                    Collections.rotate(other.orders.get(k), -(int) (at % told.parts.get(k).size()));
                }
            }
            breaths.add(breaths(other));
        }
        return breaths;
    }

    public int drawn(int seed, int n) {
        return refused(false, out(seed, 0, 65536) || out(n, 1, 60)) ? -1 : draws(seed, n).get(n - 1);
    }

    public int drawnLeast(int seed, int n) {
        return refused(false, out(seed, 0, 65536) || out(n, 1, 60)) ? -1 : Collections.min(draws(seed, n));
    }

    // ---- acts

    private void act() {
        undos.addLast(now.copy());
        if (undos.size() > 16) {
            undos.removeFirst();
        }
    }

    public boolean say(int k, int worth) {
        if (refused(noWord(k), out(worth, 0, 99))) {
            return false;
        }
        if (now.worths.get(k) == worth) {
            trouble = 5;
            return false;
        }
        act();
        now.worths.put(k, worth);
        return true;
    }

    public int front(int k, int i) {
        if (refused(noNode(k) || out(i, 0, now.orders.get(k).size() - 1), false)) {
            return -1;
        }
        if (i == 0) {
            trouble = 5;
            return -1;
        }
        act();
        now.orders.set(k, putFirst(now.orders.get(k), i));
        return now.orders.get(k).get(0);
    }

    public boolean undo() {
        trouble = undos.isEmpty() ? 6 : 0;
        if (trouble == 0) {
            now = undos.removeLast();
        }
        return trouble == 0;
    }

    public int image() {
        if (refused(false, false)) {
            return -1;
        }
        if (images.size() == 3) {
            trouble = 3;
            return -1;
        }
        images.add(now.copy());
        return images.size() - 1;
    }

    public boolean back(int image) {
        trouble = out(image, 0, images.size() - 1) ? 1 : 0;
        if (trouble == 0) {
            now = images.get(image).copy();
            undos.clear();
        }
        return trouble == 0;
    }

    // ---- what is told

    public int led(int i) {
        List<Integer> never = new ArrayList<>();
        if (told != null) {
            breaths(now);
            never.addAll(told.worths.keySet());
            never.removeAll(words);
        }
        if (out(i, 0, never.size() - 1)) {
            throw new NoSuchElementException();
        }
        return never.get(i);
    }

    public int size(int what) {
        return switch (what) {
            case 0 -> told == null ? 0 : told.slips;
            case 1 -> told == null ? 0 : told.kinds.size();
            case 2 -> told == null ? 0 : told.worths.size();
            case 3 -> told == null ? 0 : told.unsure.size();
            case 4 -> told == null || told.said < 0 ? 0 : 1;
            case 5 -> undos.size();
            case 6 -> images.size();
            case 7 -> tape.length();
            default -> -1;
        };
    }

    public int trouble() {
        return trouble;
    }
}
