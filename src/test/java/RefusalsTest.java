import java.util.function.Supplier;
import java.util.function.ToLongFunction;

/**
 * Each call that is refused: what it answers, what trouble() and where() tell behind it, and that nothing else has
 * changed. And calls that only tell something change nothing either.
 */
public final class RefusalsTest {
    private static final int MIN = Integer.MIN_VALUE;
    private static final int MAX = Integer.MAX_VALUE;
    private static final int NO_SUCH = 1;
    private static final int NUMBER = 2;
    private static final int NO_ROOM = 3;
    private static final int FAULTY = 4;
    private static final int NOT_SO = 5;
    private static final int NOTHING = 6;

    private final Due due = new Due();
    private Supplier<KingHears> state = RefusalsTest::busy;
    private String stateName = "";

    public static void main(String[] args) {
        RefusalsTest test = new RefusalsTest();
        test.withoutCourt();
        test.withoutCourtAheadOfNumbers();
        test.onBusyOne();
        test.ofFullOnes();
        test.tellingChangesNothing();
        test.due.end("RefusalsTest");
    }

    // ---- states, each of which has something that a refused call could spoil

    /** No COURT; a FAULT was met; THE TAPE has a text. */
    private static KingHears courtless() {
        KingHears x = new KingHears();
        Due.court(x, "court slips 101");
        Due.feed(x, Courts.ONE);
        return x;
    }

    /** TOP with three acts and two images. */
    private static KingHears acted() {
        KingHears x = Due.of(Courts.TOP);
        x.say(0, 31);
        x.image();
        x.front(8, 2);
        x.image();
        x.say(1, 69);
        return x;
    }

    /** The same with a FAULT met and a text on THE TAPE; the latest trouble is 0. */
    private static KingHears busy() {
        KingHears x = acted();
        Due.court(x, "court slips 0;word y worth 100");
        Due.feed(x, Courts.ONE);
        x.throne();
        return x;
    }

    private static KingHears withFullTape() {
        KingHears x = busy();
        x.court(0);
        feedAll(x, Courts.ONE + " ".repeat(900 - Courts.ONE.length()));
        x.throne();
        return x;
    }

    private static void feedAll(KingHears x, String text) {
        if (Due.feed(x, text) != text.length()) {
            throw new IllegalStateException("THE TAPE has not taken all");
        }
    }

    private static KingHears withSixteenActs() {
        KingHears x = Due.of(Courts.ONE);
        for (int worth = 10; worth < 26; worth++) {
            x.say(0, worth);
        }
        x.image();
        return x;
    }

    private static KingHears withThreeImages() {
        KingHears x = Due.of(Courts.CUT);
        for (int i = 0; i < 3; i++) {
            x.say(0, 50 + i);
            x.image();
        }
        x.say(0, 60);
        return x;
    }

    private void from(String name, Supplier<KingHears> that) {
        stateName = name;
        state = that;
    }

    private void refused(String call, ToLongFunction<KingHears> made, long answer, int trouble) {
        String what = stateName + ": " + call;
        KingHears x = state.get();
        due.same(what, made.applyAsLong(x), answer);
        due.same("trouble() behind " + what, x.trouble(), trouble);
        due.same("where() behind " + what, x.where(), -1);
        KingHears other = state.get();
        due.same("fault() behind " + what, x.fault(), other.fault());
        alike(what, x, other);
    }

    private void alike(String what, KingHears x, KingHears other) {
        due.same("whether nothing else has changed by " + what, Picture.of(x).equals(Picture.of(other)), true);
    }

    private static long number(boolean is) {
        return is ? 1 : 0;
    }

    // ---- "no COURT"

    private void withoutCourt() {
        from("no COURT", RefusalsTest::courtless);
        for (int k : new int[] {MIN, -1, 0, 1, 17, 18, MAX}) {
            ofNoNode(k);
        }
        refused("throne()", x -> x.throne(), -1, NO_SUCH);
        refused("line()", x -> x.line(), -1, NO_SUCH);
        refused("lineAt(0)", x -> x.lineAt(0), -1, NO_SUCH);
        refused("whole()", x -> x.whole(), -1, NO_SUCH);
        refused("hears()", x -> x.hears(), -1, NO_SUCH);
        refused("heardAt(0)", x -> x.heardAt(0), -1, NO_SUCH);
        refused("heard()", x -> x.heard(), -1, NO_SUCH);
        refused("cuts()", x -> x.cuts(), -1, NO_SUCH);
        refused("cutAt(0)", x -> x.cutAt(0), -1, NO_SUCH);
        refused("hearsIn(0, 1)", x -> x.hearsIn(0, 1), -1, NO_SUCH);
        refused("handed(0, 1)", x -> x.handed(0, 1, false), -1, NO_SUCH);
        refused("asks(0)", x -> x.asks(0), -1, NO_SUCH);
        refused("askBreaths(0)", x -> x.askBreaths(0), -1, NO_SUCH);
        refused("halves()", x -> x.halves(), -1, NO_SUCH);
        refused("questions()", x -> x.questions(), -1, NO_SUCH);
        refused("proof(0)", x -> x.proof(0), -1, NO_SUCH);
        refused("disproof(0)", x -> x.disproof(0), -1, NO_SUCH);
        refused("sure()", x -> x.sure(), -1, NO_SUCH);
        refused("night(0)", x -> x.night(0, false), -1, NO_SUCH);
        refused("settles()", x -> x.settles(), -1, NO_SUCH);
        refused("pivot()", x -> x.pivot(), -1, NO_SUCH);
        unsureOnesWithoutCourt();
        refused("undo()", x -> number(x.undo()), 0, NOTHING);
        refused("image()", x -> x.image(), -1, NO_SUCH);
        refused("back(0)", x -> number(x.back(0)), 0, NO_SUCH);
        refused("court(-1)", x -> x.court(-1), -1, NUMBER);
        refused("court(41)", x -> x.court(41), -1, NUMBER);
    }

    private void unsureOnesWithoutCourt() {
        refused("fits()", x -> x.fits(), -1, NO_SUCH);
        refused("fitAt(0)", x -> x.fitAt(0), -1, NO_SUCH);
        refused("could()", x -> x.could(), -1, NO_SUCH);
        refused("surely()", x -> x.surely(), -1, NO_SUCH);
        refused("ask()", x -> x.ask(), -1, NO_SUCH);
        refused("askLeaves()", x -> x.askLeaves(), -1, NO_SUCH);
        refused("odds(0)", x -> x.odds(0, false), -1, NO_SUCH);
        refused("odds(0), below", x -> x.odds(0, true), -1, NO_SUCH);
        refused("mean()", x -> x.mean(false), -1, NO_SUCH);
        refused("mean(), below", x -> x.mean(true), -1, NO_SUCH);
        refused("speaks(0)", x -> x.speaks(0, false, false, false), -100, NO_SUCH);
        refused("rests(0)", x -> x.rests(0), -1, NO_SUCH);
        refused("rest(0)", x -> x.rest(0), -1, NO_SUCH);
        refused("drawn(0, 1)", x -> x.drawn(0, 1), -1, NO_SUCH);
        refused("drawnLeast(0, 1)", x -> x.drawnLeast(0, 1), -1, NO_SUCH);
    }

    /** Where both hold, "no COURT" is told, which the document names first. */
    private void withoutCourtAheadOfNumbers() {
        from("no COURT", RefusalsTest::courtless);
        refused("hearsIn(1, 0)", x -> x.hearsIn(1, 0), -1, NO_SUCH);
        refused("handed(0, 100)", x -> x.handed(0, 100, true), -1, NO_SUCH);
        refused("asks(100)", x -> x.asks(100), -1, NO_SUCH);
        refused("askBreaths(-1)", x -> x.askBreaths(-1), -1, NO_SUCH);
        refused("proof(101)", x -> x.proof(101), -1, NO_SUCH);
        refused("disproof(-1)", x -> x.disproof(-1), -1, NO_SUCH);
        refused("night(10)", x -> x.night(10, true), -1, NO_SUCH);
        refused("odds(100)", x -> x.odds(100, true), -1, NO_SUCH);
        refused("speaks(10)", x -> x.speaks(10, true, true, true), -100, NO_SUCH);
        refused("rests(-1)", x -> x.rests(-1), -1, NO_SUCH);
        refused("rest(10)", x -> x.rest(10), -1, NO_SUCH);
        refused("drawn(65537, 1)", x -> x.drawn(65537, 1), -1, NO_SUCH);
        refused("drawn(0, 61)", x -> x.drawn(0, 61), -1, NO_SUCH);
        refused("drawnLeast(-1, 0)", x -> x.drawnLeast(-1, 0), -1, NO_SUCH);
        refused("say(0, 100)", x -> number(x.say(0, 100)), 0, NO_SUCH);
    }

    /** Every call with the number of a NODE that isn't there. */
    private void ofNoNode(int k) {
        for (int what : new int[] {-1, 0, 1, 2, 3, 4, 5}) {
            refused("node(" + k + ", " + what + ")", x -> x.node(k, what), -1, NO_SUCH);
        }
        refused("part(" + k + ", 0)", x -> x.part(k, 0), -1, NO_SUCH);
        refused("weight(" + k + ", 0)", x -> x.weight(k, 0), -1, NO_SUCH);
        refused("worth(" + k + ")", x -> x.worth(k, false), -1, NO_SUCH);
        refused("worth(" + k + "), below", x -> x.worth(k, true), -1, NO_SUCH);
        refused("best(" + k + ")", x -> x.best(k), -1, NO_SUCH);
        refused("first(" + k + ")", x -> x.first(k), -1, NO_SUCH);
        refused("firstBreaths(" + k + ")", x -> x.firstBreaths(k), -1, NO_SUCH);
        refused("orderMean(" + k + ")", x -> x.orderMean(k, false), -1, NO_SUCH);
        refused("orderMean(" + k + "), below", x -> x.orderMean(k, true), -1, NO_SUCH);
        refused("orderLeast(" + k + ")", x -> x.orderLeast(k), -1, NO_SUCH);
        refused("turn(" + k + ")", x -> x.turn(k), -1, NO_SUCH);
        refused("say(" + k + ", 5)", x -> number(x.say(k, 5)), 0, NO_SUCH);
        refused("say(" + k + ", 100)", x -> number(x.say(k, 100)), 0, NO_SUCH);
        refused("front(" + k + ", 0)", x -> x.front(k, 0), -1, NO_SUCH);
        refused("front(" + k + ", 1)", x -> x.front(k, 1), -1, NO_SUCH);
    }

    // ---- refused by a COURT with nine NODES

    private void onBusyOne() {
        from("busy", RefusalsTest::busy);
        courtRefused();
        for (int k : new int[] {MIN, -1, 9, 17, 18, MAX}) {
            ofNoNode(k);
        }
        ofWrongPlaces();
        ofWrongSorts();
        for (int number : new int[] {MIN, -1, 100, 101, MAX}) {
            ofWrongWorth(number);
        }
        ofWrongBounds();
        ofWrongSmallNumbers();
        ofWrongDraws();
        actsRefused();
    }

    /** "2 (THE TAPE stays); 4 (the COURT stays)". */
    private void courtRefused() {
        for (int n : new int[] {MIN, -1, 41, 60, 900, 901, MAX}) {
            refused("court(" + n + ")", x -> x.court(n), -1, NUMBER);
        }
        String other = "court slips 7;word z worth 1;word y worth 2;king k z, y;throne z;said 3;unsure y 9";
        faulty(1, other + ";");
        faulty(1, other + ";word");
        faulty(2, other + ";queen q k, r");
        faulty(3, other + ";queen q k, k");
        faulty(4, other + ";word x worth 100");
        faulty(5, "court slips 7;word z worth 1;chance c z 1;chance d z 1;chance e z 1");
        faulty(6, "court slips 7;said 4");
    }

    /** All that was read ahead of the FAULT is forgotten. */
    private void faulty(int fault, String text) {
        KingHears x = acted();
        due.same("court of " + text, Due.court(x, text), -1);
        due.same("trouble() of " + text, x.trouble(), FAULTY);
        due.same("fault() of " + text, x.fault(), fault);
        due.same("whether where() tells of " + text, x.where() > 0, true);
        due.same("THE TAPE behind " + text, x.size(7), 0);
        alike(text, x, acted());
    }

    /** i ahead of the first, behind the last, and far off. */
    private void ofWrongPlaces() {
        for (int far : new int[] {MIN, -1, MAX}) {
            refused("node(8, " + far + ")", x -> x.node(8, far), -1, NO_SUCH);
            refused("part(8, " + far + ")", x -> x.part(8, far), -1, NO_SUCH);
            refused("weight(7, " + far + ")", x -> x.weight(7, far), -1, NO_SUCH);
            refused("lineAt(" + far + ")", x -> x.lineAt(far), -1, NO_SUCH);
            refused("heardAt(" + far + ")", x -> x.heardAt(far), -1, NO_SUCH);
            refused("cutAt(" + far + ")", x -> x.cutAt(far), -1, NO_SUCH);
            refused("fitAt(" + far + ")", x -> x.fitAt(far), -1, NO_SUCH);
            refused("front(8, " + far + ")", x -> x.front(8, far), -1, NO_SUCH);
            refused("back(" + far + ")", x -> number(x.back(far)), 0, NO_SUCH);
        }
        refused("node(8, 5)", x -> x.node(8, 5), -1, NO_SUCH);
        refused("part(8, 3)", x -> x.part(8, 3), -1, NO_SUCH);
        refused("part(7, 2)", x -> x.part(7, 2), -1, NO_SUCH);
        refused("weight(7, 9)", x -> x.weight(7, 9), -1, NO_SUCH);
        refused("lineAt(2)", x -> x.lineAt(2), -1, NO_SUCH);
        refused("heardAt(4)", x -> x.heardAt(4), -1, NO_SUCH);
        refused("cutAt(2)", x -> x.cutAt(2), -1, NO_SUCH);
        refused("fitAt(2)", x -> x.fitAt(2), -1, NO_SUCH);
        refused("front(8, 3)", x -> x.front(8, 3), -1, NO_SUCH);
        refused("front(7, 2)", x -> x.front(7, 2), -1, NO_SUCH);
        refused("back(2)", x -> number(x.back(2)), 0, NO_SUCH);
    }

    /** "no PART of that, no chance", "no word, too". */
    private void ofWrongSorts() {
        refused("part(0, 0) of a word", x -> x.part(0, 0), -1, NO_SUCH);
        refused("weight(7, 1), no PART of that", x -> x.weight(7, 1), -1, NO_SUCH);
        refused("weight(7, 7), itself", x -> x.weight(7, 7), -1, NO_SUCH);
        refused("weight(8, 5) of a king", x -> x.weight(8, 5), -1, NO_SUCH);
        refused("weight(5, 0) of a queen", x -> x.weight(5, 0), -1, NO_SUCH);
        refused("weight(0, 0) of a word", x -> x.weight(0, 0), -1, NO_SUCH);
        refused("front(0, 0) of a word", x -> x.front(0, 0), -1, NO_SUCH);
        for (int k = 5; k < 9; k++) {
            int counsel = k;
            refused("turn(" + k + ")", x -> x.turn(counsel), -1, NO_SUCH);
            refused("say(" + k + ", 5)", x -> number(x.say(counsel, 5)), 0, NO_SUCH);
            refused("say(" + k + ", 0)", x -> number(x.say(counsel, 0)), 0, NO_SUCH);
            refused("say(" + k + ", 100)", x -> number(x.say(counsel, 100)), 0, NO_SUCH);
        }
    }

    /** Numbers that are 0 .. 99, and those that are 0 .. 100. */
    private void ofWrongWorth(int number) {
        refused("asks(" + number + ")", x -> x.asks(number), -1, NUMBER);
        refused("askBreaths(" + number + ")", x -> x.askBreaths(number), -1, NUMBER);
        refused("odds(" + number + ")", x -> x.odds(number, false), -1, NUMBER);
        refused("odds(" + number + "), below", x -> x.odds(number, true), -1, NUMBER);
        refused("say(0, " + number + ")", x -> number(x.say(0, number)), 0, NUMBER);
        refused("say(4, " + number + ")", x -> number(x.say(4, number)), 0, NUMBER);
        if (number != 100) {
            refused("proof(" + number + ")", x -> x.proof(number), -1, NUMBER);
            refused("disproof(" + number + ")", x -> x.disproof(number), -1, NUMBER);
        }
    }

    /** "two bounds (0 .. 99, the lower one less)". */
    private void ofWrongBounds() {
        int[][] wrong = {{-1, 0}, {-1, 99}, {0, 100}, {99, 100}, {0, 0}, {99, 99}, {50, 50}, {1, 0}, {99, 98}, {99, 0},
            {MIN, 5}, {5, MIN}, {5, MAX}, {MAX, 5}, {MIN, MAX}, {MAX, MIN}};
        for (int[] bounds : wrong) {
            int low = bounds[0];
            int high = bounds[1];
            String told = "(" + low + ", " + high + ")";
            refused("hearsIn" + told, x -> x.hearsIn(low, high), -1, NUMBER);
            refused("handed" + told, x -> x.handed(low, high, false), -1, NUMBER);
            refused("handed, below, " + told, x -> x.handed(low, high, true), -1, NUMBER);
        }
    }

    /** NIGHTS and envy are 0 .. 9. */
    private void ofWrongSmallNumbers() {
        for (int number : new int[] {MIN, -1, 10, MAX}) {
            refused("night(" + number + ")", x -> x.night(number, false), -1, NUMBER);
            refused("night(" + number + "), below", x -> x.night(number, true), -1, NUMBER);
            refused("speaks(" + number + ")", x -> x.speaks(number, false, false, false), -100, NUMBER);
            refused("speaks(" + number + "), both", x -> x.speaks(number, true, true, true), -100, NUMBER);
            refused("rests(" + number + ")", x -> x.rests(number), -1, NUMBER);
            refused("rest(" + number + ")", x -> x.rest(number), -1, NUMBER);
        }
    }

    /** "the n-th (1 .. 60) of ORDERS by a SEED (0 .. 65,536)". */
    private void ofWrongDraws() {
        int[][] wrong = {{-1, 1}, {65537, 1}, {-1, 60}, {65537, 60}, {0, 0}, {0, 61}, {65536, 0}, {65536, 61}, {0, -1},
            {MIN, 1}, {MAX, 1}, {0, MIN}, {0, MAX}, {MAX, MAX}};
        for (int[] draw : wrong) {
            int seed = draw[0];
            int n = draw[1];
            refused("drawn(" + seed + ", " + n + ")", x -> x.drawn(seed, n), -1, NUMBER);
            refused("drawnLeast(" + seed + ", " + n + ")", x -> x.drawnLeast(seed, n), -1, NUMBER);
        }
    }

    /** "5 (it is worth that)", "5 (it is the first)", "6". */
    private void actsRefused() {
        refused("say(0, 31), which it is worth NOW", x -> number(x.say(0, 31)), 0, NOT_SO);
        refused("say(4, 90), which it was told", x -> number(x.say(4, 90)), 0, NOT_SO);
        for (int k = 5; k < 9; k++) {
            int counsel = k;
            refused("front(" + k + ", 0)", x -> x.front(counsel, 0), -1, NOT_SO);
        }
        from("TOP", () -> Due.of(Courts.TOP));
        refused("undo() of nothing", x -> number(x.undo()), 0, NOTHING);
        refused("back(0) without images", x -> number(x.back(0)), 0, NO_SUCH);
        refused("back(2) without images", x -> number(x.back(2)), 0, NO_SUCH);
        from("a counsel with one PART", () -> Due.of(Courts.CHAIN));
        refused("front(1, 0)", x -> x.front(1, 0), -1, NOT_SO);
        refused("front(1, 1)", x -> x.front(1, 1), -1, NO_SUCH);
        refused("part(1, 1)", x -> x.part(1, 1), -1, NO_SUCH);
        from("worths at their bounds", () -> Due.of("court slips 0;word a worth 0;word b worth 99"));
        refused("say(0, 0)", x -> number(x.say(0, 0)), 0, NOT_SO);
        refused("say(1, 99)", x -> number(x.say(1, 99)), 0, NOT_SO);
        from("gone back", RefusalsTest::goneBack);
        refused("undo()", x -> number(x.undo()), 0, NOTHING);
    }

    private static KingHears goneBack() {
        KingHears x = busy();
        x.back(1);
        return x;
    }

    // ---- what is full

    private void ofFullOnes() {
        from("three images", RefusalsTest::withThreeImages);
        refused("image(), the fourth", x -> x.image(), -1, NO_ROOM);
        refused("back(3)", x -> number(x.back(3)), 0, NO_SUCH);
        refused("back(-1)", x -> number(x.back(-1)), 0, NO_SUCH);
        from("sixteen acts", RefusalsTest::withSixteenActs);
        refused("say(0, 25), which it is worth", x -> number(x.say(0, 25)), 0, NOT_SO);
        refused("say(0, 100)", x -> number(x.say(0, 100)), 0, NUMBER);
        refused("say(1, 5)", x -> number(x.say(1, 5)), 0, NO_SUCH);
        refused("front(0, 0)", x -> x.front(0, 0), -1, NO_SUCH);
        from("a full tape", RefusalsTest::withFullTape);
        refused("court(901)", x -> x.court(901), -1, NUMBER);
        refused("court(-1)", x -> x.court(-1), -1, NUMBER);
        KingHears x = withFullTape();
        due.same("feed beyond 900 bytes", x.feed(0x3B3B3B3B, 0x3B3B3B3B, 0x3B3B3B3B, 0x3B3B3B3B, 0x3B3B3B3B), -1);
        due.same("trouble() behind feed, which tells no number", x.trouble(), 0);
        alike("feed beyond 900 bytes", x, withFullTape());
    }

    // ---- what only tells

    private void tellingChangesNothing() {
        telling("busy", RefusalsTest::busy, 9);
        telling("CUT", () -> Due.of(Courts.CUT), 8);
        KingHears x = busy();
        x.say(0, 100);
        allThatTellNoNumber(x);
        due.same("trouble() behind calls of which no number is told", x.trouble(), NUMBER);
        alike("calls of which no number is told", x, busy());
    }

    private void telling(String name, Supplier<KingHears> made, int nodes) {
        for (int k = -1; k <= nodes; k++) {
            KingHears x = made.get();
            tellOfNode(x, k);
            alike(name + ": what tells of the NODE " + k, x, made.get());
        }
        KingHears x = made.get();
        tellOfAll(x);
        alike(name + ": what tells of all", x, made.get());
    }

    private static void tellOfNode(KingHears x, int k) {
        x.node(k, 2);
        x.part(k, 1);
        x.weight(k, 0);
        x.worth(k, true);
        x.best(k);
        x.first(k);
        x.firstBreaths(k);
        x.orderMean(k, true);
        x.orderLeast(k);
        x.turn(k);
    }

    private static void tellOfAll(KingHears x) {
        x.lineAt(1);
        x.whole();
        x.heardAt(1);
        x.cutAt(0);
        x.hearsIn(20, 40);
        x.handed(20, 40, true);
        x.asks(30);
        x.askBreaths(60);
        x.questions();
        x.proof(40);
        x.disproof(60);
        x.night(1, false);
        x.fitAt(0);
        x.ask();
        x.askLeaves();
        x.odds(40, true);
        x.speaks(3, true, false, true);
        x.rests(3);
        x.rest(3);
        x.drawn(77, 60);
        x.drawnLeast(77, 60);
    }

    private void allThatTellNoNumber(KingHears x) {
        x.fault();
        x.where();
        x.trouble();
        for (int what = -1; what <= 8; what++) {
            x.size(what);
        }
        for (int i : new int[] {MIN, -1, 0, 5, MAX}) {
            Due.ledThrows(x, i);
        }
    }
}
