/** Each promise by its number: ordinary inputs, edges, wrong inputs, with answers worked out by hand. */
public final class PromisesTest {
    private static final String TOP = Courts.TOP;
    private static final String CUT = Courts.CUT;
    private static final String ONE = Courts.ONE;
    private static final String WIDE = Courts.WIDE;
    private static final int TOP_NODE = 8;

    private final Due due = new Due();
    private final KingHears none = new KingHears();

    public static void main(String[] args) {
        PromisesTest test = new PromisesTest();
        test.theCourt();
        test.now();
        test.hearing();
        test.questions();
        test.proofs();
        test.orders();
        test.nightsAndTurns();
        test.unsureWords();
        test.foolAndMinister();
        test.draws();
        test.acts();
        test.whatIsTold();
        test.due.end("PromisesTest");
    }

    // ---- the court: promises 1 to 5

    private void theCourt() {
        p1NewObject();
        p2Feed();
        p3Court();
        p4Fault();
        p5Where();
    }

    private void p1NewObject() {
        KingHears x = new KingHears();
        for (int what = 0; what <= 7; what++) {
            due.same("new: size(" + what + ")", x.size(what), 0);
        }
        due.same("new: trouble()", x.trouble(), 0);
        due.same("new: fault()", x.fault(), 0);
        due.same("new: where()", x.where(), -1);
        due.refused(x, "new: throne()", x.throne(), -1, 1);
        due.same("NONE", KingHears.NONE, -1);
    }

    private void p2Feed() {
        KingHears x = new KingHears();
        due.same("court(-1)", x.court(-1), -1);
        for (int i = 1; i <= 45; i++) {
            due.same("feed, the " + i + "th", x.feed(0x20202020, 0x20202020, 0x20202020, 0x20202020, 0x20202020), 20 * i);
        }
        due.same("feed beyond 900", x.feed(0x3B3B3B3B, 0, 0, 0, 0), -1);
        due.same("size(7) then", x.size(7), 900);
        due.same("feed is no call that may be refused", x.trouble(), 2);
        due.same("court(900) of blanks", x.court(900), -1);
        due.same("where() of blanks", x.where(), 900);
        due.same("feed then", x.feed(-1, -1, -1, -1, -1), 20);
        due.same("court(20) of bytes 255", x.court(20), -1);
        due.same("fault() of bytes 255", x.fault(), 1);
        due.same("where() of bytes 255", x.where(), 0);
        // "court slips 0;word x" with the highest byte of each number first
        x.feed(0x636F7572, 0x7420736C, 0x69707320, 0x303B776F, 0x72642078);
        x.feed(0x20776F72, 0x74682037, 0x20202020, 0x20202020, 0x20202020);
        due.same("bytes in their order", x.court(28), 1);
        due.same("their worth", x.worth(0, false), 7);
    }

    private void p3Court() {
        KingHears x = new KingHears();
        due.refused(x, "court(1) of an empty tape", x.court(1), -1, 2);
        due.refused(x, "court(0) of an empty tape", x.court(0), -1, 4);
        due.same("where() of court(0)", x.where(), 0);
        Due.feed(x, ONE);
        due.refused(x, "court(-1)", x.court(-1), -1, 2);
        due.refused(x, "court(41)", x.court(41), -1, 2);
        due.refused(x, "court(min)", x.court(Integer.MIN_VALUE), -1, 2);
        due.refused(x, "court(max)", x.court(Integer.MAX_VALUE), -1, 2);
        due.same("THE TAPE stays", x.size(7), 40);
        due.refused(x, "court(40)", x.court(40), 1, 0);
        due.same("THE TAPE is empty", x.size(7), 0);
        due.refused(x, "court of TOP", Due.court(x, TOP), 9, 0);
        x.say(0, 31);
        x.image();
        due.refused(x, "a faulty court", Due.court(x, "court slips 0;word"), -1, 4);
        due.same("THE TAPE is empty behind a FAULT", x.size(7), 0);
        due.same("the COURT stays", x.size(1), 9);
        due.same("its worths stay", x.worth(0, false), 31);
        due.same("its acts stay", x.size(5), 1);
        due.same("its images stay", x.size(6), 1);
        due.refused(x, "a new court", Due.court(x, ONE), 1, 0);
        due.same("nothing to undo", x.undo(), false);
        due.same("no images", x.back(0), false);
        due.same("no unsure words", x.size(3), 0);
        due.same("nothing said", x.size(4), 0);
        due.same("only the first bytes count", courtOfFirst(x, ONE + ";word", ONE.length()), 1);
    }

    private static int courtOfFirst(KingHears x, String text, int n) {
        Due.feed(x, text);
        return x.court(n);
    }

    private void p4Fault() {
        KingHears x = new KingHears();
        Due.court(x, "court slips 101");
        due.same("fault()", x.fault(), 4);
        x.court(1);
        due.same("fault() behind a court() refused by 2", x.fault(), 4);
        Due.court(x, ONE);
        due.same("fault() of a fine one", x.fault(), 0);
    }

    private void p5Where() {
        KingHears x = new KingHears();
        Due.court(x, "court slips 101");
        due.same("where()", x.where(), 12);
        x.fault();
        x.trouble();
        x.size(1);
        x.feed(0, 0, 0, 0, 0);
        ledThrows(x, 0);
        due.same("where() behind calls that can't be refused", x.where(), 12);
        x.undo();
        due.same("where() behind one that can", x.where(), -1);
        Due.court(x, "court slips 101");
        x.court(1);
        due.same("where() behind court() refused by 2", x.where(), -1);
        due.same("where() asked again", x.where(), -1);
    }

    // ---- now: promises 6 to 13

    private void now() {
        KingHears x = Due.of(TOP);
        p6Node(x);
        p7Part(x);
        p8Weight(x);
        p9Throne(x);
        p10Worth(x);
        p11Best(x);
        p12And13Line(x);
    }

    private void p6Node(KingHears x) {
        int[] kinds = {0, 0, 0, 0, 0, 2, 2, 3, 1};
        int[] parts = {0, 0, 0, 0, 0, 2, 2, 2, 3};
        int[] steps = {0, 0, 0, 0, 0, 1, 1, 1, 2};
        int[] below = {1, 2, 4, 8, 16, 3, 12, 17, 31};
        int[] above = {160, 32, 64, 64, 128, 256, 256, 256, 0};
        for (int k = 0; k < 9; k++) {
            due.same("node(" + k + ", 0)", x.node(k, 0), kinds[k]);
            due.same("node(" + k + ", 1)", x.node(k, 1), parts[k]);
            due.same("node(" + k + ", 2)", x.node(k, 2), steps[k]);
            due.same("node(" + k + ", 3)", x.node(k, 3), below[k]);
            due.same("node(" + k + ", 4)", x.node(k, 4), above[k]);
        }
        due.refused(x, "node(9, 0)", x.node(9, 0), -1, 1);
        due.refused(x, "node(0, 0)", x.node(0, 0), 0, 0);
        due.refused(x, "node(-1, 0)", x.node(-1, 0), -1, 1);
        due.refused(x, "node(0, 5)", x.node(0, 5), -1, 1);
        due.refused(x, "node(0, -1)", x.node(0, -1), -1, 1);
        due.refused(none, "no COURT: node(0, 0)", none.node(0, 0), -1, 1);
        due.same("steps of the longest way", Due.of(WIDE).node(11, 2), 8);
    }

    private void p7Part(KingHears x) {
        due.same("part(8, 0)", x.part(8, 0), 5);
        due.refused(x, "part(8, 2)", x.part(8, 2), 7, 0);
        due.same("part(7, 0), as told", x.part(7, 0), 4);
        due.refused(x, "part(8, 3)", x.part(8, 3), -1, 1);
        due.refused(x, "part(8, -1)", x.part(8, -1), -1, 1);
        due.refused(x, "part(0, 0)", x.part(0, 0), -1, 1);
        due.refused(x, "part(9, 0)", x.part(9, 0), -1, 1);
        KingHears moved = Due.of(TOP);
        moved.front(8, 2);
        due.same("part(8, 0) NOW", moved.part(8, 0), 7);
        due.same("part(8, 1) NOW", moved.part(8, 1), 5);
        due.same("part(8, 2) NOW", moved.part(8, 2), 6);
    }

    private void p8Weight(KingHears x) {
        due.refused(x, "weight(7, 4)", x.weight(7, 4), 1, 0);
        due.same("weight(7, 0)", x.weight(7, 0), 2);
        due.refused(x, "weight(7, 1)", x.weight(7, 1), -1, 1);
        due.refused(x, "weight(8, 5)", x.weight(8, 5), -1, 1);
        due.refused(x, "weight(0, 0)", x.weight(0, 0), -1, 1);
        due.refused(x, "weight(9, 0)", x.weight(9, 0), -1, 1);
        due.refused(x, "weight(7, -1)", x.weight(7, -1), -1, 1);
        KingHears moved = Due.of(TOP);
        moved.front(7, 1);
        due.same("weight(7, 4) stays with its PART", moved.weight(7, 4), 1);
        due.same("the worth stays, too", moved.worth(7, false), 50);
        due.refused(none, "no COURT: weight(0, 0)", none.weight(0, 0), -1, 1);
    }

    private void p9Throne(KingHears x) {
        due.refused(x, "throne()", x.throne(), 8, 0);
        due.same("throne() told", Due.of(TOP + ";throne mid").throne(), 6);
        due.same("throne() that is a word", Due.of(TOP + ";throne ay").throne(), 0);
        due.same("throne() that isn't told is the last NODE", Due.of(CUT + ";word z worth 1").throne(), 8);
        due.refused(none, "no COURT: throne()", none.throne(), -1, 1);
    }

    private void p10Worth(KingHears x) {
        long[] worths = {30, 70, 50, 20, 90, 30, 20, 50, 50};
        for (int k = 0; k < 9; k++) {
            due.fraction("worth(" + k + ")", x.worth(k, false), x.worth(k, true), worths[k], 1);
        }
        KingHears odd = Due.of("court slips 0;word a worth 10;word b worth 11;word z worth 0;chance m a 2, b 4;"
            + "chance n m 3, b 6, z 3;queen q n, z;king top n, q");
        due.fraction("the mean (20 + 44) by 6", odd.worth(3, false), odd.worth(3, true), 32, 3);
        due.fraction("the mean (32 + 66 + 0) by 12", odd.worth(4, false), odd.worth(4, true), 49, 6);
        due.fraction("0 by 1", odd.worth(5, false), odd.worth(5, true), 0, 1);
        due.fraction("the most", odd.worth(6, false), odd.worth(6, true), 49, 6);
        due.refused(x, "worth(9)", x.worth(9, false), -1, 1);
        due.refused(x, "worth(-1)", x.worth(-1, true), -1, 1);
        due.refused(none, "no COURT: worth(0)", none.worth(0, true), -1, 1);
    }

    private void p11Best(KingHears x) {
        due.refused(x, "best(8)", x.best(8), 7, 0);
        due.same("best(5)", x.best(5), 0);
        due.same("best(6)", x.best(6), 3);
        due.refused(x, "best(7)", x.best(7), -2, 0);
        due.same("best(0)", x.best(0), -2);
        due.refused(x, "best(9)", x.best(9), -1, 1);
        KingHears like = Due.of("court slips 0;word a worth 4;word b worth 5;word c worth 5;king k a, b, c");
        due.same("the first of like ones", like.best(3), 1);
        like.front(3, 2);
        due.same("the first of like ones NOW", like.best(3), 2);
        due.refused(none, "no COURT: best(0)", none.best(0), -1, 1);
    }

    private void p12And13Line(KingHears x) {
        due.refused(x, "line()", x.line(), 2, 0);
        due.same("lineAt(0)", x.lineAt(0), 8);
        due.refused(x, "lineAt(1)", x.lineAt(1), 7, 0);
        due.refused(x, "lineAt(2)", x.lineAt(2), -1, 1);
        due.refused(x, "lineAt(-1)", x.lineAt(-1), -1, 1);
        KingHears wide = Due.of(WIDE);
        due.same("line() of the least way to the most", wide.line(), 3);
        due.same("lineAt(1) of it", wide.lineAt(1), 7);
        due.same("lineAt(2) of it", wide.lineAt(2), 3);
        due.same("line() of a word", Due.of(ONE).line(), 1);
        due.refused(none, "no COURT: line()", none.line(), -1, 1);
        due.refused(none, "no COURT: lineAt(0)", none.lineAt(0), -1, 1);
    }

    // ---- hearing: promises 14 to 21

    private void hearing() {
        p14Whole();
        p15To19Hearing();
        p15Bounds();
        p15To19Wide();
        p20And21Within();
    }

    private void p14Whole() {
        KingHears x = Due.of(CUT);
        due.refused(x, "whole()", x.whole(), 4, 0);
        due.same("whole() of a word", Due.of(ONE).whole(), 1);
        due.same("whole() of TOP", Due.of(TOP).whole(), 6);
        due.same("whole() of WIDE", Due.of(WIDE).whole(), 349);
        due.refused(none, "no COURT: whole()", none.whole(), -1, 1);
    }

    private void p15To19Hearing() {
        KingHears x = Due.of(CUT);
        due.refused(x, "hears()", x.hears(), 3, 0);
        due.same("heardAt(0)", x.heardAt(0), 0);
        due.same("heardAt(1)", x.heardAt(1), 1);
        due.refused(x, "heardAt(2)", x.heardAt(2), 2, 0);
        due.refused(x, "heardAt(3)", x.heardAt(3), -1, 1);
        due.refused(x, "heardAt(-1)", x.heardAt(-1), -1, 1);
        due.refused(x, "heard()", x.heard(), 7, 0);
        due.refused(x, "cuts()", x.cuts(), 1, 0);
        due.refused(x, "cutAt(0)", x.cutAt(0), 3, 0);
        due.refused(x, "cutAt(1)", x.cutAt(1), -1, 1);
        due.refused(x, "cutAt(-1)", x.cutAt(-1), -1, 1);
        KingHears y = Due.of(TOP);
        due.same("hears() of TOP", y.hears(), 6);
        due.same("heardAt(5) of TOP, which comes again", y.heardAt(5), 0);
        due.same("heard() of TOP", y.heard(), 31);
        due.same("cuts() of TOP", y.cuts(), 0);
        due.refused(none, "no COURT: hears()", none.hears(), -1, 1);
        due.refused(none, "no COURT: heardAt(0)", none.heardAt(0), -1, 1);
        due.refused(none, "no COURT: heard()", none.heard(), -1, 1);
        due.refused(none, "no COURT: cuts()", none.cuts(), -1, 1);
        due.refused(none, "no COURT: cutAt(0)", none.cutAt(0), -1, 1);
    }

    /** Like ones cut, less does not; chance begins with bounds as at first; cut ones in their order. */
    private void p15Bounds() {
        KingHears like = Due.of("court slips 0;word a worth 5;word b worth 5;word c worth 6;queen q b, c;king top a, q");
        due.same("hears() of a like one", like.hears(), 2);
        like.say(1, 6);
        due.same("hears() of more", like.hears(), 3);
        KingHears other = Due.of("court slips 0;word a worth 5;word b worth 5;word c worth 4;word d worth 3;"
            + "king k b, c, d;queen top a, k");
        due.same("hears() the other way", other.hears(), 2);
        due.same("cuts() the other way", other.cuts(), 2);
        due.same("cutAt(0) in their order", other.cutAt(0), 2);
        due.same("cutAt(1) in their order", other.cutAt(1), 3);
        other.front(4, 2);
        due.same("hears() by the order NOW", other.hears(), 3);
        due.same("heardAt(1) by the order NOW", other.heardAt(1), 3);
        due.same("cuts() by the order NOW", other.cuts(), 1);
        KingHears chance = Due.of("court slips 0;word a worth 90;word b worth 1;word c worth 2;queen q b, c;"
            + "chance o q 1;king top a, o");
        due.same("chance hears all", chance.hears(), 3);
        due.same("chance cuts none", chance.cuts(), 0);
        KingHears deep = Due.of("court slips 0;word a worth 50;word b worth 40;word c worth 30;word d worth 60;"
            + "king k b, c;queen q k, d;king top a, q");
        due.same("bounds reach down: what no word could change is cut", deep.hears(), 3);
        due.same("what is cut there", deep.cutAt(0), 3);
    }

    /** By rising worths nothing is cut among kings; the lists have room for all that is heard. */
    private void p15To19Wide() {
        KingHears x = Due.of(WIDE);
        due.same("hears() of WIDE", x.hears(), 349);
        due.same("heardAt(348) of WIDE", x.heardAt(348), lastHeard());
        due.same("heard() of WIDE", x.heard(), 15);
        due.refused(x, "heardAt(349) of WIDE", x.heardAt(349), -1, 1);
    }

    /** The last PART of l is k, and so on down to e, whose last one is d. */
    private static int lastHeard() {
        return 3;
    }

    private void p20And21Within() {
        KingHears x = Due.of(TOP);
        due.refused(x, "hearsIn(40, 60)", x.hearsIn(40, 60), 5, 0);
        due.same("hearsIn(60, 70)", x.hearsIn(60, 70), 4);
        due.same("hearsIn(10, 40)", x.hearsIn(10, 40), 6);
        due.same("hearsIn(0, 30)", x.hearsIn(0, 30), 2);
        due.fraction("handed(0, 30)", x.handed(0, 30, false), x.handed(0, 30, true), 30, 1);
        due.fraction("handed(40, 60)", x.handed(40, 60, false), x.handed(40, 60, true), 50, 1);
        due.same("hearsIn(0, 99)", x.hearsIn(0, 99), 6);
        int[][] wrongs = {{5, 5}, {6, 5}, {0, 100}, {-1, 5}, {99, 100}, {Integer.MIN_VALUE, Integer.MAX_VALUE}};
        for (int[] w : wrongs) {
            due.refused(x, "hearsIn" + w[0] + " " + w[1], x.hearsIn(w[0], w[1]), -1, 2);
            due.refused(x, "handed" + w[0] + " " + w[1], x.handed(w[0], w[1], false), -1, 2);
        }
        KingHears cut = Due.of(CUT);
        due.same("hearsIn(9, 99): both counsels end with their first word", cut.hearsIn(9, 99), 2);
        due.same("handed as it came out, below the lower bound", cut.handed(9, 99, false), 5);
        due.same("hearsIn(0, 5): so much is enough", cut.hearsIn(0, 5), 2);
        KingHears odd = Due.of("court slips 0;word a worth 1;word b worth 2;chance top a 1, b 1");
        due.fraction("handed, in lowest terms", odd.handed(0, 1, false), odd.handed(0, 1, true), 3, 2);
        due.refused(none, "no COURT: hearsIn(0, 1)", none.hearsIn(0, 1), -1, 1);
        due.refused(none, "no COURT: hearsIn(1, 0)", none.hearsIn(1, 0), -1, 1);
        due.refused(none, "no COURT: handed(0, 1)", none.handed(0, 1, false), -1, 1);
    }

    // ---- narrow questions: promises 22 to 25

    private void questions() {
        KingHears x = Due.of(TOP);
        due.refused(x, "asks(50)", x.asks(50), 1, 0);
        due.refused(x, "asks(51)", x.asks(51), 0, 0);
        due.same("asks(0)", x.asks(0), 1);
        due.same("asks(99)", x.asks(99), 0);
        due.refused(x, "askBreaths(50)", x.askBreaths(50), 5, 0);
        due.same("askBreaths(51)", x.askBreaths(51), 4);
        due.same("askBreaths(30)", x.askBreaths(30), 2);
        due.refused(x, "asks(100)", x.asks(100), -1, 2);
        due.refused(x, "asks(-1)", x.asks(-1), -1, 2);
        due.refused(x, "askBreaths(100)", x.askBreaths(100), -1, 2);
        due.refused(x, "askBreaths(-1)", x.askBreaths(-1), -1, 2);
        due.refused(x, "halves()", x.halves(), 25, 0);
        due.refused(x, "questions()", x.questions(), 6, 0);
        KingHears one = Due.of(ONE);
        due.same("questions() of 7", one.questions(), 7);
        due.same("halves() of 7", one.halves(), 7);
        one.say(0, 99);
        due.same("questions() of 99: 50, 75, 87, 93, 96, 98, 99", one.questions(), 7);
        one.say(0, 0);
        due.same("questions() of 0: 50, 25, 12, 6, 3, 1", one.questions(), 6);
        KingHears third = Due.of("court slips 0;word a worth 50;word b worth 51;chance top a 1, b 2");
        due.same("152 by 3 is 50 or more", third.asks(50), 1);
        due.same("152 by 3 is not 51", third.asks(51), 0);
        due.same("chance hears all its PARTS", third.askBreaths(99), 2);
        due.refused(none, "no COURT: asks(0)", none.asks(0), -1, 1);
        due.refused(none, "no COURT: asks(100)", none.asks(100), -1, 1);
        due.refused(none, "no COURT: askBreaths(0)", none.askBreaths(0), -1, 1);
        due.refused(none, "no COURT: halves()", none.halves(), -1, 1);
        due.refused(none, "no COURT: questions()", none.questions(), -1, 1);
        inChanceHearingCuts();
    }

    /** ASKING a chance's PARTS is HEARING: there q cuts c as soon as b is no more than a's 50. */
    private void inChanceHearingCuts() {
        KingHears x = Due.of("court slips 0;word a worth 50;word b worth 50;word c worth 60;queen q b, c;king k a, q;"
            + "chance top k 1");
        due.same("askBreaths(99) below chance", x.askBreaths(99), 2);
        due.same("askBreaths(1) below chance", x.askBreaths(1), 2);
    }

    // ---- proofs: promises 26 to 28

    private void proofs() {
        KingHears x = Due.of(TOP);
        due.refused(x, "proof(50)", x.proof(50), 17, 0);
        due.refused(x, "proof(51)", x.proof(51), -2, 0);
        due.same("proof(30), of like ones the least bits", x.proof(30), 16);
        due.same("proof(20)", x.proof(20), 1);
        due.same("proof(0)", x.proof(0), 0);
        due.same("proof(100)", x.proof(100), -2);
        due.refused(x, "proof(101)", x.proof(101), -1, 2);
        due.refused(x, "proof(-1)", x.proof(-1), -1, 2);
        due.refused(x, "disproof(51)", x.disproof(51), 21, 0);
        due.refused(x, "disproof(50)", x.disproof(50), -2, 0);
        due.same("disproof(0)", x.disproof(0), -2);
        due.same("disproof(100)", x.disproof(100), 0);
        due.refused(x, "disproof(101)", x.disproof(101), -1, 2);
        due.refused(x, "disproof(-1)", x.disproof(-1), -1, 2);
        due.refused(x, "sure()", x.sure(), 21, 0);
        x.say(3, 0);
        due.same("disproof(51): like ones, by the least bits still see", x.disproof(51), 21);
        KingHears like = Due.of("court slips 0;word a worth 9;king ka a;word b worth 9;king kb a, b");
        due.same("proof(9) by the first of like ones", like.proof(9), 1);
        due.same("disproof(10) by both; words' bits are their NODES'", like.disproof(10), 5);
        KingHears ten = Due.of(tenWords());
        due.same("sure() by ten words", ten.sure(), 1023);
        due.same("disproof(100) of ten", ten.disproof(100), 0);
        due.same("proof(50) of ten", ten.proof(50), 1);
        due.refused(none, "no COURT: proof(0)", none.proof(0), -1, 1);
        due.refused(none, "no COURT: proof(101)", none.proof(101), -1, 1);
        due.refused(none, "no COURT: disproof(0)", none.disproof(0), -1, 1);
        due.refused(none, "no COURT: sure()", none.sure(), -1, 1);
    }

    private static String tenWords() {
        return "court slips 0;word a worth 50;word b worth 50;word c worth 50;word d worth 50;word e worth 50;"
            + "word f worth 50;word g worth 50;word h worth 50;word i worth 50;word j worth 50;"
            + "king k a, b, c, d;king l e, f, g, h;king m i, j;king top k, l, m";
    }

    // ---- orders: promises 29 to 32

    private void orders() {
        KingHears x = Due.of(TOP);
        due.refused(x, "first(8)", x.first(8), 7, 0);
        due.refused(x, "firstBreaths(8)", x.firstBreaths(8), 4, 0);
        due.same("first(6)", x.first(6), 3);
        due.same("firstBreaths(6)", x.firstBreaths(6), 5);
        due.same("first(5), of like ones the first", x.first(5), 0);
        due.same("firstBreaths(5)", x.firstBreaths(5), 6);
        due.refused(x, "first(0)", x.first(0), -2, 0);
        due.refused(x, "firstBreaths(0)", x.firstBreaths(0), -2, 0);
        due.refused(x, "first(9)", x.first(9), -1, 1);
        due.refused(x, "firstBreaths(9)", x.firstBreaths(9), -1, 1);
        due.refused(x, "first(-1)", x.first(-1), -1, 1);
        due.same("what is tried does not stay", x.part(8, 0), 5);
        x.front(5, 1);
        due.same("first(5) as they stand NOW", x.first(5), 1);
        orderMeans();
        due.refused(none, "no COURT: first(0)", none.first(0), -1, 1);
        due.refused(none, "no COURT: firstBreaths(0)", none.firstBreaths(0), -1, 1);
        due.refused(none, "no COURT: orderMean(0)", none.orderMean(0, false), -1, 1);
        due.refused(none, "no COURT: orderLeast(0)", none.orderLeast(0), -1, 1);
    }

    /** Of TOP's orders: l m o 6, m l o 6, l o m 5, m o l 5, o l m 4, o m l 4. */
    private void orderMeans() {
        KingHears x = Due.of(TOP);
        due.fraction("orderMean(8)", x.orderMean(8, false), x.orderMean(8, true), 5, 1);
        due.refused(x, "orderLeast(8)", x.orderLeast(8), 4, 0);
        due.fraction("orderMean(6)", x.orderMean(6, false), x.orderMean(6, true), 11, 2);
        due.same("orderLeast(6)", x.orderLeast(6), 5);
        due.fraction("orderMean(0) as it is", x.orderMean(0, false), x.orderMean(0, true), 6, 1);
        due.same("orderLeast(0) as it is", x.orderLeast(0), 6);
        due.fraction("orderMean(7)", x.orderMean(7, false), x.orderMean(7, true), 6, 1);
        due.refused(x, "orderMean(9)", x.orderMean(9, true), -1, 1);
        due.refused(x, "orderLeast(9)", x.orderLeast(9), -1, 1);
        due.refused(x, "orderLeast(-1)", x.orderLeast(-1), -1, 1);
        KingHears four = Due.of("court slips 0;word z worth 1;word a worth 1;word b worth 2;word c worth 3;word d worth 4;"
            + "queen q a, b, c, d;king top z, q");
        due.fraction("mean of 2, 3, 4, 5, each as likely", four.orderMean(5, false), four.orderMean(5, true), 7, 2);
        due.same("the fewest of them", four.orderLeast(5), 2);
    }

    // ---- nights, turns: promises 33 to 36

    private void nightsAndTurns() {
        nights();
        turns();
    }

    /** a 10, q = least(b 20, k), k = most(a, c 60), top = most(a, q, k): worth 60. */
    private void nights() {
        KingHears x = Due.of("court slips 0;word a worth 10;word b worth 20;word c worth 60;king k a, c;queen q b, k;"
            + "king top a, q, k");
        due.fraction("night(0)", x.night(0, false), x.night(0, true), 50, 1);
        due.same("night(1): most of 10, 50, 50", x.night(1, false), 50);
        due.same("night(2): k is 60, and 50 only two steps down", x.night(2, false), 60);
        due.refused(x, "night(9)", x.night(9, false), 60, 0);
        due.refused(x, "settles()", x.settles(), 2, 0);
        due.refused(x, "night(10)", x.night(10, false), -1, 2);
        due.refused(x, "night(-1)", x.night(-1, false), -1, 2);
        x.say(2, 50);
        due.same("settles() from the first night on", x.settles(), 0);
        KingHears again = Due.of("court slips 0;word a worth 50;word b worth 0;king k b;queen q k, a;king top q, a");
        due.same("night(1)", again.night(1, false), 50);
        due.same("settles() if all nights are like", again.settles(), 0);
        KingHears off = Due.of("court slips 0;word a worth 50;word b worth 0;word c worth 70;queen q a, c;king k q, b;"
            + "chance top k 1, c 1");
        due.fraction("night(0) of chance", off.night(0, false), off.night(0, true), 50, 1);
        due.fraction("night(1) of chance", off.night(1, false), off.night(1, true), 60, 1);
        due.same("settles() of 60", off.settles(), 1);
        KingHears back = Due.of("court slips 0;word a worth 50;word b worth 90;word c worth 50;king k b;queen q k, c;"
            + "queen top q, k");
        due.same("settles() where each night is 50", back.settles(), 0);
        KingHears later = Due.of("court slips 0;word a worth 50;word b worth 60;king k b;queen q k, a;king r q;king top r, a");
        due.same("settles() from 0 on though deeper ones change", later.settles(), 0);
        KingHears not = Due.of("court slips 0;word w worth 50;word b worth 90;word c worth 99;chance o b 1, c 1;"
            + "queen q o, w;chance top q 1, w 1");
        due.same("settles() of 50", not.settles(), 0);
        due.fraction("night of a word", Due.of(ONE).night(0, false), Due.of(ONE).night(0, true), 7, 1);
        due.same("settles() of a word", Due.of(ONE).settles(), 0);
        due.same("settles() of the longest way", Due.of(Courts.CHAIN).settles(), 8);
        leavesAndComesBack();
        due.refused(none, "no COURT: night(0)", none.night(0, false), -1, 1);
        due.refused(none, "no COURT: night(10)", none.night(10, false), -1, 1);
        due.refused(none, "no COURT: settles()", none.settles(), -1, 1);
    }

    /** Nights 50, 60, 50: it is worth 50, but not from night 0 on. */
    private void leavesAndComesBack() {
        KingHears x = Due.of("court slips 0;word a worth 70;word b worth 30;queen k b;chance top a 1, k 1");
        due.same("night(0)", x.night(0, false), 50);
        due.same("night(1)", x.night(1, false), 60);
        due.same("night(2)", x.night(2, false), 50);
        due.same("settles()", x.settles(), 2);
    }

    private void turns() {
        KingHears x = Due.of(TOP);
        due.refused(x, "turn(0)", x.turn(0), 1, 0);
        due.refused(x, "turn(1)", x.turn(1), -2, 0);
        due.same("turn(2)", x.turn(2), -2);
        due.same("turn(3)", x.turn(3), -2);
        due.same("turn(4)", x.turn(4), 1);
        due.refused(x, "turn(5), no word", x.turn(5), -1, 1);
        due.refused(x, "turn(9)", x.turn(9), -1, 1);
        due.refused(x, "turn(-1)", x.turn(-1), -1, 1);
        due.refused(x, "pivot()", x.pivot(), 0, 0);
        KingHears y = Due.of("court slips 0;word a worth 40;word b worth 60;word c worth 99;queen q a, c;king top q, b");
        due.same("turn(0): 61 is more than 60", y.turn(0), 21);
        due.same("turn(1): 1 more or less", y.turn(1), 1);
        due.same("turn(2)", y.turn(2), -2);
        due.same("pivot()", y.pivot(), 1);
        y.say(1, 99);
        due.same("turn(1) less", y.turn(1), 1);
        due.same("turn(0): it can't be more than 99", y.turn(0), -2);
        KingHears down = Due.of("court slips 0;word a worth 30;word b worth 70;queen top a, b");
        due.same("turn(1) less: 29", down.turn(1), 41);
        KingHears even = Due.of("court slips 0;word a worth 99;word b worth 0;king k a;queen top b, k");
        due.same("turn(0) from 99: 0 is no other worth", even.turn(0), -2);
        KingHears none2 = Due.of("court slips 0;word a worth 99;word b worth 99;king top a, b");
        due.same("turn of one of two like ones", none2.turn(0), -2);
        due.same("pivot() where none does", none2.pivot(), -2);
        due.refused(none, "no COURT: turn(0)", none.turn(0), -1, 1);
        due.refused(none, "no COURT: pivot()", none.pivot(), -1, 1);
    }

    // ---- unsure words: promises 37 to 44

    private void unsureWords() {
        KingHears x = Due.of(TOP);
        due.refused(x, "fits()", x.fits(), 2, 0);
        due.same("fitAt(0)", x.fitAt(0), 0);
        due.refused(x, "fitAt(1)", x.fitAt(1), 1, 0);
        due.refused(x, "fitAt(2)", x.fitAt(2), -1, 1);
        due.refused(x, "fitAt(-1)", x.fitAt(-1), -1, 1);
        due.refused(x, "could()", x.could(), 1, 0);
        due.refused(x, "surely()", x.surely(), 0, 0);
        due.refused(x, "ask()", x.ask(), 3, 0);
        due.refused(x, "askLeaves()", x.askLeaves(), 1, 0);
        x.say(0, 99);
        due.same("fits() as told at first", x.fits(), 2);
        fitsOfOthers();
        slips();
        due.refused(none, "no COURT: fits()", none.fits(), -1, 1);
        due.refused(none, "no COURT: fitAt(0)", none.fitAt(0), -1, 1);
        due.refused(none, "no COURT: could()", none.could(), -1, 1);
        due.refused(none, "no COURT: surely()", none.surely(), -1, 1);
        due.refused(none, "no COURT: ask()", none.ask(), -1, 1);
        due.refused(none, "no COURT: askLeaves()", none.askLeaves(), -1, 1);
        due.refused(none, "no COURT: odds(0)", none.odds(0, false), -1, 1);
        due.refused(none, "no COURT: odds(100)", none.odds(100, false), -1, 1);
        due.refused(none, "no COURT: mean()", none.mean(false), -1, 1);
    }

    private void fitsOfOthers() {
        String base = TOP.replace(";said 50", "");
        KingHears all = Due.of(base);
        due.same("fits() if nothing was said", all.fits(), 4);
        due.same("could()", all.could(), 3);
        due.same("surely()", all.surely(), 0);
        due.same("ask(), the first of like ones as told", all.ask(), 3);
        due.same("askLeaves()", all.askLeaves(), 2);
        KingHears down = Due.of(base + ";said 83");
        due.same("fits() of 250 by 3, downwards", down.fits(), 2);
        due.same("fitAt(0)", down.fitAt(0), 2);
        due.same("fitAt(1)", down.fitAt(1), 3);
        due.same("surely()", down.surely(), 2);
        due.same("could()", down.could(), 3);
        KingHears no = Due.of(base + ";said 84");
        due.same("fits() of none", no.fits(), 0);
        due.same("could() of none", no.could(), 0);
        due.same("surely() of none", no.surely(), 0);
        due.refused(no, "ask() of none", no.ask(), -2, 0);
        due.refused(no, "askLeaves() of none", no.askLeaves(), -2, 0);
        due.refused(no, "fitAt(0) of none", no.fitAt(0), -1, 1);
        KingHears one = Due.of(ONE);
        due.same("fits() without unsure words", one.fits(), 1);
        due.same("fitAt(0) without", one.fitAt(0), 0);
        due.same("ask() without", one.ask(), -2);
        due.same("askLeaves() without", one.askLeaves(), -2);
        due.same("fits() of one said otherwise", Due.of(ONE + ";said 8").fits(), 0);
    }

    private void slips() {
        KingHears x = Due.of(TOP);
        due.fraction("odds(50)", x.odds(50, false), x.odds(50, true), 1, 1);
        due.fraction("odds(51)", x.odds(51, false), x.odds(51, true), 1, 2);
        due.fraction("odds(84)", x.odds(84, false), x.odds(84, true), 0, 1);
        due.fraction("mean()", x.mean(false), x.mean(true), 200, 3);
        due.refused(x, "odds(100)", x.odds(100, false), -1, 2);
        due.refused(x, "odds(-1)", x.odds(-1, false), -1, 2);
        due.refused(x, "mean()", x.mean(false), 200, 0);
        due.refused(x, "odds(0)", x.odds(0, false), 1, 0);
        x.say(4, 0);
        due.fraction("mean() NOW: left 30 or 70, mid 20 or 50, odd 20 or 160 by 3", x.mean(false), x.mean(true), 55, 1);
        KingHears rare = Due.of("court slips 1;word a worth 0;word b worth 0;unsure a 60;unsure b 80;king top a, b");
        due.fraction("odds(1): 199 of 10000", rare.odds(1, false), rare.odds(1, true), 199, 10000);
        due.fraction("odds(61)", rare.odds(61, false), rare.odds(61, true), 1, 100);
        due.fraction("mean(): 0.0099 times 60 and 0.01 times 80", rare.mean(false), rare.mean(true), 697, 500);
        rare.say(0, 60);
        due.fraction("odds(60) NOW", rare.odds(60, false), rare.odds(60, true), 1, 1);
        KingHears never = Due.of("court slips 0;word a worth 3;unsure a 60");
        due.fraction("mean() without slips", never.mean(false), never.mean(true), 3, 1);
        KingHears always = Due.of("court slips 100;word a worth 3;unsure a 60");
        due.fraction("mean() with slips always", always.mean(false), always.mean(true), 60, 1);
        KingHears four = Due.of("court slips 33;word a worth 99;word b worth 98;word c worth 97;word d worth 95;"
            + "unsure a 98;unsure b 97;unsure c 96;unsure d 94;chance o a 9, b 9, c 9, d 8;chance top o 9, a 9, b 9, c 8");
        due.same("the lower WHOLE of a long one", four.mean(true) > 0, true);
    }

    // ---- a fool, a minister: promises 45 to 47

    private void foolAndMinister() {
        KingHears x = Due.of(ONE);
        for (int envy = 0; envy <= 9; envy++) {
            due.same("the fool alone has", x.speaks(envy, true, false, false), 5);
            due.same("the minister then", x.speaks(envy, true, false, true), -envy);
            due.same("the minister alone has", x.speaks(envy, false, true, true), 5);
            due.same("the fool then", x.speaks(envy, false, true, false), -envy);
            due.same("both: the fool", x.speaks(envy, true, true, false), 2 - envy);
            due.same("both: the minister", x.speaks(envy, true, true, true), 2 - envy);
            due.same("none: the fool", x.speaks(envy, false, false, false), 1);
            due.refused(x, "none: the minister", x.speaks(envy, false, false, true), 1, 0);
            due.refused(x, "rests(" + envy + ")", x.rests(envy), 1, 0);
            due.refused(x, "rest(" + envy + ")", x.rest(envy), 11, 0);
        }
        for (int envy : new int[] {-1, 10, Integer.MIN_VALUE, Integer.MAX_VALUE}) {
            due.refused(x, "speaks(" + envy + ")", x.speaks(envy, true, true, true), -100, 2);
            due.refused(x, "rests(" + envy + ")", x.rests(envy), -1, 2);
            due.refused(x, "rest(" + envy + ")", x.rest(envy), -1, 2);
            due.refused(none, "no COURT: speaks(" + envy + ")", none.speaks(envy, true, true, true), -100, 1);
        }
        due.refused(none, "no COURT: speaks(0)", none.speaks(0, true, true, true), -100, 1);
        due.refused(none, "no COURT: rests(0)", none.rests(0), -1, 1);
        due.refused(none, "no COURT: rest(0)", none.rest(0), -1, 1);
    }

    // ---- orders by draws: promises 48 and 49

    /**
     * SEED 0 draws 74, 5624, 28652 for l, r, top: all even, so all stay: 3 breaths.
     * Behind it 51790, 17641, 12409: r is d, c and top is r, l: 4 breaths.
     */
    private void draws() {
        KingHears x = Due.of(CUT);
        due.refused(x, "drawn(0, 1)", x.drawn(0, 1), 3, 0);
        due.refused(x, "drawn(0, 2)", x.drawn(0, 2), 4, 0);
        due.refused(x, "drawnLeast(0, 2)", x.drawnLeast(0, 2), 3, 0);
        due.same("SEED 1 draws 149, 11249, 57305: l b a, r d c, top r l", x.drawn(1, 1), 4);
        due.same("drawnLeast(1, 1)", x.drawnLeast(1, 1), 4);
        due.same("SEED 11 draws 899, 1962, 16150: only l turns round", x.drawn(11, 1), 3);
        due.same("what is tried does not stay", x.hears(), 3);
        x.front(6, 1);
        due.same("drawn(0, 1) by the order NOW", x.drawn(0, 1), 4);
        due.same("drawn(5, 60) of a word", Due.of(ONE).drawn(5, 60), 1);
        due.refused(x, "drawn(65536, 60)", x.drawn(65536, 60) > 0, true, 0);
        int[][] wrongs = {{-1, 1}, {65537, 1}, {0, 0}, {0, 61}, {0, -1}, {Integer.MIN_VALUE, Integer.MAX_VALUE}};
        for (int[] w : wrongs) {
            due.refused(x, "drawn " + w[0] + " " + w[1], x.drawn(w[0], w[1]), -1, 2);
            due.refused(x, "drawnLeast " + w[0] + " " + w[1], x.drawnLeast(w[0], w[1]), -1, 2);
        }
        due.refused(none, "no COURT: drawn(0, 1)", none.drawn(0, 1), -1, 1);
        due.refused(none, "no COURT: drawn(-1, 0)", none.drawn(-1, 0), -1, 1);
        due.refused(none, "no COURT: drawnLeast(0, 1)", none.drawnLeast(0, 1), -1, 1);
    }

    // ---- acts: promises 50 to 54

    private void acts() {
        p50Say();
        p51Front();
        p51LastNode();
        p52Undo();
        p53And54Images();
    }

    private void p50Say() {
        KingHears x = Due.of(TOP);
        due.refused(x, "say(0, 31)", x.say(0, 31), true, 0);
        due.same("its worth", x.worth(0, false), 31);
        due.refused(x, "say(0, 31) again", x.say(0, 31), false, 5);
        due.refused(x, "say(0, 100)", x.say(0, 100), false, 2);
        due.refused(x, "say(0, -1)", x.say(0, -1), false, 2);
        due.refused(x, "say(5, 1), no word", x.say(5, 1), false, 1);
        due.refused(x, "say(5, 100), no word", x.say(5, 100), false, 1);
        due.refused(x, "say(9, 1)", x.say(9, 1), false, 1);
        due.refused(x, "say(-1, 1)", x.say(-1, 1), false, 1);
        due.same("refused ones are no acts", x.size(5), 1);
        due.refused(x, "say(0, 0)", x.say(0, 0), true, 0);
        due.refused(x, "say(0, 99)", x.say(0, 99), true, 0);
        due.fraction("the THRONE then: (90 + 198) by 3", x.worth(8, false), x.worth(8, true), 96, 1);
        due.refused(none, "no COURT: say(0, 0)", none.say(0, 0), false, 1);
    }

    private void p51Front() {
        KingHears x = Due.of(TOP);
        due.refused(x, "front(8, 1)", x.front(8, 1), 6, 0);
        due.refused(x, "front(8, 2)", x.front(8, 2), 7, 0);
        due.same("part(8, 0)", x.part(8, 0), 7);
        due.same("part(8, 1)", x.part(8, 1), 6);
        due.same("part(8, 2)", x.part(8, 2), 5);
        due.same("hears() then", x.hears(), 4);
        due.refused(x, "front(8, 0)", x.front(8, 0), -1, 5);
        due.refused(x, "front(8, 3)", x.front(8, 3), -1, 1);
        due.refused(x, "front(8, -1)", x.front(8, -1), -1, 1);
        due.refused(x, "front(0, 0)", x.front(0, 0), -1, 1);
        due.refused(x, "front(9, 1)", x.front(9, 1), -1, 1);
        due.refused(none, "no COURT: front(0, 0)", none.front(0, 0), -1, 1);
    }

    /** The last NODE there is room for. */
    private void p51LastNode() {
        KingHears x = Due.of("court slips 0;word a worth 1;word b worth 2;word c worth 3;word d worth 4;word e worth 5;"
            + "word f worth 6;word g worth 7;word h worth 8;word i worth 9;word j worth 10;king ka a;king kb a;king kc a;"
            + "king kd a;king ke a;king kf a;king kg a;queen kh a, b, c, d");
        due.same("node(17, 1)", x.node(17, 1), 4);
        due.same("node(0, 4)", x.node(0, 4), 255 << 10);
        due.same("front(17, 3)", x.front(17, 3), 3);
        due.same("part(17, 3) then", x.part(17, 3), 2);
        due.same("undo()", x.undo(), true);
        due.same("part(17, 3) as told", x.part(17, 3), 3);
        due.refused(x, "node(18, 0)", x.node(18, 0), -1, 1);
        due.same("first(17)", x.first(17), 0);
        due.same("orderLeast(17)", x.orderLeast(17), 4);
        due.same("drawn(7, 60)", x.drawn(7, 60), 4);
    }

    private void p52Undo() {
        KingHears x = Due.of(TOP);
        due.refused(x, "undo() of nothing", x.undo(), false, 6);
        x.say(0, 31);
        x.front(8, 2);
        x.say(0, 32);
        due.refused(x, "undo()", x.undo(), true, 0);
        due.same("worth then", x.worth(0, false), 31);
        due.same("undo() of front", x.undo(), true);
        due.same("part(8, 0) then", x.part(8, 0), 5);
        due.same("part(8, 1) then", x.part(8, 1), 6);
        due.same("part(8, 2) then", x.part(8, 2), 7);
        due.same("undo() of the first", x.undo(), true);
        due.same("worth as told", x.worth(0, false), 30);
        due.refused(x, "undo() of no more", x.undo(), false, 6);
        for (int worth = 40; worth < 57; worth++) {
            x.say(0, worth);
        }
        due.same("16 are kept", x.size(5), 16);
        for (int i = 0; i < 16; i++) {
            due.same("undo(), the " + i + "th", x.undo(), true);
        }
        due.refused(x, "undo() beyond 16", x.undo(), false, 6);
        due.same("the 17th stays", x.worth(0, false), 40);
        due.refused(none, "no COURT: undo()", none.undo(), false, 6);
    }

    private void p53And54Images() {
        KingHears x = Due.of(TOP);
        due.refused(x, "back(0) without images", x.back(0), false, 1);
        due.refused(x, "image()", x.image(), 0, 0);
        x.say(0, 31);
        x.front(8, 1);
        due.same("image(), the second", x.image(), 1);
        due.same("an image is no act", x.size(5), 2);
        x.say(0, 32);
        due.same("image(), the third", x.image(), 2);
        due.refused(x, "image(), the fourth", x.image(), -1, 3);
        due.refused(x, "back(1)", x.back(1), true, 0);
        due.same("worth by it", x.worth(0, false), 31);
        due.same("part by it", x.part(8, 0), 6);
        due.refused(x, "nothing can be undone", x.undo(), false, 6);
        due.same("all images stay", x.size(6), 3);
        x.say(0, 77);
        x.front(8, 2);
        due.same("back(1) again", x.back(1), true);
        due.same("an image is not changed by acts", x.worth(0, false), 31);
        due.same("nor are its orders", x.part(8, 0), 6);
        due.same("back(0)", x.back(0), true);
        due.same("worth by the first", x.worth(0, false), 30);
        due.same("part by the first", x.part(8, 0), 5);
        due.same("back(2)", x.back(2), true);
        due.same("worth by the third", x.worth(0, false), 32);
        due.refused(x, "back(3)", x.back(3), false, 1);
        due.refused(x, "back(-1)", x.back(-1), false, 1);
        due.refused(none, "no COURT: image()", none.image(), -1, 1);
        due.refused(none, "no COURT: back(0)", none.back(0), false, 1);
    }

    // ---- what is told: promises 55 to 57

    private void whatIsTold() {
        KingHears x = Due.of(CUT);
        due.same("led(0)", x.led(0), 3);
        due.same("led(1), that isn't below the THRONE", x.led(1), 4);
        ledThrows(x, 2);
        ledThrows(x, -1);
        ledThrows(x, Integer.MAX_VALUE);
        ledThrows(none, 0);
        ledThrows(Due.of(ONE), 0);
        x.say(2, 6);
        due.same("led(0) NOW", x.led(0), 4);
        p56Size();
        p57Trouble();
    }

    private void ledThrows(KingHears x, int i) {
        due.same("whether led(" + i + ") throws", Due.ledThrows(x, i), true);
    }

    private void p56Size() {
        KingHears x = Due.of(TOP);
        x.say(0, 31);
        x.say(0, 32);
        x.image();
        x.feed(0, 0, 0, 0, 0);
        int[] sizes = {50, 9, 5, 2, 1, 2, 1, 20};
        for (int what = 0; what < 8; what++) {
            due.same("size(" + what + ")", x.size(what), sizes[what]);
        }
        due.same("size(8)", x.size(8), -1);
        due.same("size(-1)", x.size(-1), -1);
        due.same("size(max)", x.size(Integer.MAX_VALUE), -1);
        due.same("size(4) if nothing was said", Due.of(CUT).size(4), 0);
        due.same("size(4) if 0 was said", Due.of(CUT + ";said 0").size(4), 1);
        due.same("size(0) of CUT", Due.of(CUT).size(0), 10);
    }

    private void p57Trouble() {
        KingHears x = Due.of(TOP);
        x.say(0, 100);
        due.same("trouble()", x.trouble(), 2);
        due.same("trouble() asked again", x.trouble(), 2);
        x.size(9);
        x.fault();
        x.where();
        x.feed(0, 0, 0, 0, 0);
        ledThrows(x, 9);
        due.same("trouble() behind calls that can't be refused", x.trouble(), 2);
        x.turn(1);
        due.same("trouble() behind an answer of -2", x.trouble(), 0);
        x.node(TOP_NODE, 7);
        due.same("trouble() of 1", x.trouble(), 1);
        x.hears();
        due.same("trouble() of 0", x.trouble(), 0);
    }
}
