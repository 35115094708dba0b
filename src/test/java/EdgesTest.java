/**
 * Every bound that a promise or Terms II to IV name, on the side where the call is not refused: numbers at their
 * least and their most, i at the first and at the last, nothing, all, like ones. What lies one beyond is in
 * RefusalsTest; what a text may hold in TextEdgesTest.
 */
public final class EdgesTest {
    private static final int BLANKS = 0x20202020;

    private final Due due = new Due();

    public static void main(String[] args) {
        EdgesTest test = new EdgesTest();
        test.theCourt();
        test.now();
        test.hearing();
        test.questions();
        test.proofs();
        test.orders();
        test.nights();
        test.turns();
        test.unsureWords();
        test.slips();
        test.foolAndMinister();
        test.draws();
        test.acts();
        test.images();
        test.whatIsTold();
        test.ofFull();
        test.due.end("EdgesTest");
    }

    private void is(String what, long got, long want) {
        due.same(what, got, want);
    }

    private void is(String what, boolean got, boolean want) {
        due.same(what, got, want);
    }

    // ---- promises 1 to 5

    private void theCourt() {
        newObject();
        feedUpTo900();
        feedAndTheTapeThatIsRead();
        courtOfFirstBytes();
        courtForgets();
        manyCourts();
        faultAndWhere();
    }

    /** 1: "No COURT." */
    private void newObject() {
        KingHears x = new KingHears();
        for (int what = 0; what < 8; what++) {
            is("a new object's size(" + what + ")", x.size(what), 0);
        }
        is("its trouble()", x.trouble(), 0);
        is("its fault()", x.fault(), 0);
        is("its where()", x.where(), -1);
        is("whether its led(0) throws", Due.ledThrows(x, 0), true);
        is("trouble() behind led()", x.trouble(), 0);
    }

    /** 2: "how many it has; NONE, and none comes, if there would be more than 900". */
    private void feedUpTo900() {
        KingHears x = new KingHears();
        for (int many = 20; many <= 900; many += 20) {
            is("feed", x.feed(BLANKS, BLANKS, BLANKS, BLANKS, BLANKS), many);
            is("size(7)", x.size(7), many);
        }
        for (int i = 0; i < 3; i++) {
            is("feed beyond 900", x.feed(0, 0, 0, 0, 0), -1);
            is("size(7) then", x.size(7), 900);
        }
        is("trouble() of none of that", x.trouble(), 0);
        is("court(900)", x.court(900), -1);
        is("where() of nothing but blanks", x.where(), 900);
        is("feed behind it", x.feed(BLANKS, BLANKS, BLANKS, BLANKS, BLANKS), 20);
        is("trouble() that feed leaves alone", x.trouble(), 4);
        is("where() that feed leaves alone", x.where(), 900);
    }

    /** 2: the bytes come behind, of each number the highest first; those read earlier are not read again. */
    private void feedAndTheTapeThatIsRead() {
        KingHears x = new KingHears();
        Due.feed(x, "court slips 0;word abcdefgh worth 99;king k abcdefgh");
        is("a long one", x.court(52), 2);
        Due.feed(x, Courts.ONE);
        is("a short one", x.court(40), 1);
        is("its worth", x.worth(0, false), 7);
        Due.feed(x, "court slips 0;word x");
        Due.feed(x, " worth 5");
        is("two feeds", x.court(28), 1);
        is("their worth", x.worth(0, false), 5);
        x.feed(-1, -1, -1, -1, -1);
        is("bytes of 255", x.court(1), -1);
        is("where() of them", x.where(), 0);
        x.feed(0x63, 0x6F000000, BLANKS, BLANKS, BLANKS);
        is("the lowest byte comes last", x.court(3), -1);
        is("where() of a byte 0", x.where(), 0);
    }

    /** 3: n from 0 to what THE TAPE has; it is empty then. */
    private void courtOfFirstBytes() {
        KingHears x = new KingHears();
        is("court(0) of an empty tape", x.court(0), -1);
        is("trouble() of it: no COURT has no LINE", x.trouble(), 4);
        is("fault() of it", x.fault(), 1);
        is("where() of it", x.where(), 0);
        is("court(1) of an empty tape", x.court(1), -1);
        is("trouble() of it: there are no such bytes", x.trouble(), 2);
        Due.feed(x, Courts.ONE);
        is("court(0) of 40 bytes", x.court(0), -1);
        is("where() of it", x.where(), 0);
        is("THE TAPE is empty then", x.size(7), 0);
        Due.feed(x, Courts.ONE);
        is("court(40), blanks and all", x.court(40), 1);
        is("THE TAPE is empty then, too", x.size(7), 0);
        Due.feed(x, Courts.ONE + ";word y worth 8");
        is("court(28), the rest being dropped", x.court(28), 1);
        is("THE TAPE has no rest", x.size(7), 0);
        is("court(1) of what was dropped", x.court(1), -1);
        is("trouble() of it", x.trouble(), 2);
    }

    /** 3: "(nothing to undo, no IMAGES)", and nothing else of the COURT that was. */
    private void courtForgets() {
        KingHears x = Due.of(Courts.TOP + ";throne left");
        x.say(0, 31);
        x.front(8, 2);
        x.image();
        is("the same once more", Due.court(x, Courts.TOP), 9);
        is("ACTS", x.size(5), 0);
        is("IMAGES", x.size(6), 0);
        is("undo()", x.undo(), false);
        is("back(0)", x.back(0), false);
        is("the throne told", x.throne(), 8);
        is("the worth as told", x.worth(0, false), 30);
        is("the order as told", x.part(8, 0), 5);
        is("the first image again", x.image(), 0);
        is("another one", Due.court(x, Courts.ONE), 1);
        int[] sizes = {0, 1, 1, 0, 0, 0, 0, 0};
        for (int what = 0; what < 8; what++) {
            is("size(" + what + ") of it", x.size(what), sizes[what]);
        }
        is("NODES it is a PART of", x.node(0, 4), 0);
        is("fits() of it", x.fits(), 1);
        is("could() of it", x.could(), 0);
        is("the larger again", Due.court(x, Courts.CUT), 8);
        is("its throne", x.throne(), 7);
        is("NODES the first is a PART of", x.node(0, 4), 1 << 5);
    }

    /** What one COURT had room for, each later one has, too; nothing is left in it of those ahead. */
    private void manyCourts() {
        KingHears x = new KingHears();
        String large = "court slips 5;word a worth 99;word b worth 98;chance c a 9, b 9;chance d b 9, c 9;king e c, d, a;"
            + "queen f e, d;unsure a 5;unsure b 6;said 9";
        String small = "court slips 0;word a worth 1;king b a;word c worth 5;chance d a 1, c 1;queen e a, c";
        for (int i = 0; i < 9; i++) {
            is("a large COURT", Due.court(x, large), 6);
            due.fraction("its chance of chance", x.worth(3, false), x.worth(3, true), 393, 4);
            is("its ways", x.node(5, 2), 4);
            is("a small COURT", Due.court(x, small), 5);
            due.fraction("its chance", x.worth(3, false), x.worth(3, true), 3, 1);
            is("steps of a word", x.node(2, 2), 0);
            is("steps of a counsel", x.node(4, 2), 1);
            is("PARTS of a word", x.node(2, 1), 0);
            is("words below a counsel", x.node(4, 3), 5);
            is("NODES a word is a PART of", x.node(2, 4), 1 << 3 | 1 << 4);
            is("the THRONE", x.throne(), 4);
            is("unsure words", x.size(3), 0);
            is("slips", x.size(0), 0);
            is("something said", x.size(4), 0);
            is("a word alone", Due.court(x, Courts.ONE), 1);
            is("its THRONE", x.throne(), 0);
            is("its steps", x.node(0, 2), 0);
        }
    }

    /** 4: "of the latest court() not refused by 2"; 5: "if the latest call that may be refused was by 4". */
    private void faultAndWhere() {
        KingHears x = new KingHears();
        x.court(7);
        is("fault() behind 2 alone", x.fault(), 0);
        is("where() behind 2 alone", x.where(), -1);
        Due.court(x, "court slips 101");
        is("where() behind a FAULT", x.where(), 12);
        is("where() once more", x.where(), 12);
        x.hears();
        is("trouble() behind a refused call", x.trouble(), 1);
        is("where() behind it", x.where(), -1);
        is("fault() behind it", x.fault(), 4);
        x.court(1);
        is("fault() behind a court() refused by 2", x.fault(), 4);
        is("where() behind it", x.where(), -1);
        Due.court(x, "court");
        is("the FAULT of the latest", x.fault(), 1);
        Due.court(x, Courts.ONE);
        is("fault() without one", x.fault(), 0);
        is("where() without one", x.where(), -1);
        x.court(-1);
        is("fault() of a fine one, then 2", x.fault(), 0);
        Due.court(x, "word");
        is("where() that is 0", x.where(), 0);
        x.node(0, 0);
        is("where() behind a call that isn't refused", x.where(), -1);
        is("fault() behind it", x.fault(), 6);
    }

    // ---- promises 6 to 13

    private void now() {
        nodesOfFull();
        partsAtTheirEnds();
        worthsAtTheirBounds();
        bestOfLikeOnes();
        longestLine();
    }

    /** 6: k at the first and the last, what at 0 and 4, bits of the last NODES. */
    private void nodesOfFull() {
        KingHears x = Due.of(Courts.FULL);
        is("node(0, 0)", x.node(0, 0), 0);
        is("node(9, 0), the last word", x.node(9, 0), 0);
        is("node(10, 0), the first king", x.node(10, 0), 1);
        is("node(13, 0), the first queen", x.node(13, 0), 2);
        is("node(17, 0)", x.node(17, 0), 3);
        is("node(0, 1), a word's PARTS", x.node(0, 1), 0);
        is("node(17, 1)", x.node(17, 1), 4);
        is("node(0, 2), a word's steps", x.node(0, 2), 0);
        is("node(10, 2)", x.node(10, 2), 1);
        is("node(17, 2): cb ca qc qb qa kc ka, a word", x.node(17, 2), 7);
        is("node(9, 3), itself", x.node(9, 3), 512);
        is("node(17, 3), all words", x.node(17, 3), 1023);
        is("node(11, 3)", x.node(11, 3), 0xF0);
        is("node(17, 4), the last is a PART of none", x.node(17, 4), 0);
        is("node(16, 4), of the last", x.node(16, 4), 1 << 17);
        is("node(13, 4), of four", x.node(13, 4), 1 << 14 | 1 << 15 | 1 << 16 | 1 << 17);
        is("node(0, 4)", x.node(0, 4), 1 << 10 | 1 << 13);
        is("trouble()", x.trouble(), 0);
        is("the longest way", Due.of(Courts.CHAIN).node(8, 2), 8);
        is("not the shortest way", Due.of("court slips 0;word a worth 1;king k a;king l k, a").node(2, 2), 2);
        is("nor the last one", Due.of("court slips 0;word a worth 1;king k a;king l a, k").node(2, 2), 2);
    }

    /** 7, 8: i at the first and at the last; weights 1 and 9. */
    private void partsAtTheirEnds() {
        KingHears x = Due.of(Courts.FULL);
        is("part(17, 0)", x.part(17, 0), 16);
        is("part(17, 3)", x.part(17, 3), 13);
        is("part(10, 0)", x.part(10, 0), 0);
        is("part(13, 3)", x.part(13, 3), 0);
        is("weight(17, 16)", x.weight(17, 16), 9);
        is("weight(17, 13)", x.weight(17, 13), 9);
        is("weight(16, 12)", x.weight(16, 12), 9);
        KingHears y = Due.of("court slips 0;word a worth 10;word b worth 20;chance k a 1, b 9");
        is("weight(2, 0)", y.weight(2, 0), 1);
        is("weight(2, 1)", y.weight(2, 1), 9);
        y.front(2, 1);
        is("part(2, 0) NOW", y.part(2, 0), 1);
        is("weight(2, 1) is of the PART, not of its place", y.weight(2, 1), 9);
        due.fraction("worth(2) by 1 and 9", y.worth(2, false), y.worth(2, true), 19, 1);
    }

    /** 10: "(0 by 1)", 99 by 1, and lower WHOLES that are large. */
    private void worthsAtTheirBounds() {
        KingHears x = Due.of("court slips 0;word a worth 0;word b worth 99;chance c a 9, b 9;chance n a 5;"
            + "queen m a, b");
        due.fraction("worth(0)", x.worth(0, false), x.worth(0, true), 0, 1);
        due.fraction("worth(1)", x.worth(1, false), x.worth(1, true), 99, 1);
        due.fraction("worth(2), the half of 99", x.worth(2, false), x.worth(2, true), 99, 2);
        due.fraction("worth(3), chance that is 0", x.worth(3, false), x.worth(3, true), 0, 1);
        due.fraction("worth(4)", x.worth(4, false), x.worth(4, true), 0, 1);
        KingHears y = Due.of("court slips 0;word a worth 0;word b worth 1;chance c a 9, b 8;chance d c 9, a 9, b 1");
        due.fraction("8 by 17", y.worth(2, false), y.worth(2, true), 8, 17);
        due.fraction("(72 by 17 and 1) by 19", y.worth(3, false), y.worth(3, true), 89, 323);
        KingHears z = Due.of("court slips 0;word a worth 99;word b worth 98;word c worth 97;word d worth 95;"
            + "chance o a 9, b 9, c 9, d 9;chance top o 9, a 9, b 9, c 8");
        due.fraction("(99 + 98 + 97 + 95) by 4", z.worth(4, false), z.worth(4, true), 389, 4);
        due.fraction("(389 * 9 by 4, 891, 882, 776) by 35", z.worth(5, false), z.worth(5, true), 13697, 140);
    }

    /** 11: "the first such as they stand NOW; -2 a word, chance". */
    private void bestOfLikeOnes() {
        KingHears x = Due.of("court slips 0;word a worth 5;word b worth 5;word c worth 5;king k a, b, c;queen q a, b, c;"
            + "chance o a 1, b 1;king l o, c");
        is("best(3) of like ones", x.best(3), 0);
        is("best(4) of like ones", x.best(4), 0);
        is("best(5) of chance", x.best(5), -2);
        is("trouble() of -2", x.trouble(), 0);
        is("best(2) of a word", x.best(2), -2);
        is("best(6): chance as the best", x.best(6), 5);
        x.front(3, 2);
        is("best(3) NOW", x.best(3), 2);
        is("best(4), which has an order of its own", x.best(4), 0);
        x.say(2, 4);
        is("best(3), then", x.best(3), 0);
        is("best(4), then", x.best(4), 2);
    }

    /** 12, 13: one NODE alone, nine of them, up to chance. */
    private void longestLine() {
        KingHears x = Due.of(Courts.CHAIN);
        is("line() of the longest way", x.line(), 9);
        is("lineAt(0)", x.lineAt(0), 8);
        is("lineAt(8), the last", x.lineAt(8), 0);
        is("lineAt(9)", x.lineAt(9), -1);
        is("trouble() of it", x.trouble(), 1);
        KingHears word = Due.of(Courts.ONE);
        is("line() of a word", word.line(), 1);
        is("lineAt(0) of a word", word.lineAt(0), 0);
        is("lineAt(1) of a word", word.lineAt(1), -1);
        KingHears chance = Due.of("court slips 0;word a worth 1;king k a;chance o k 1;king l o;queen m l");
        is("line() to chance", chance.line(), 3);
        is("lineAt(2), chance", chance.lineAt(2), 2);
        is("lineAt(3)", chance.lineAt(3), -1);
        KingHears on = Due.of("court slips 0;word a worth 1;chance o a 1");
        is("line() of a THRONE of chance", on.line(), 1);
        KingHears acted = Due.of("court slips 0;word a worth 1;word b worth 2;king k a;king l b;king m l;king n k, m");
        is("line() by b", acted.line(), 4);
        acted.say(0, 3);
        is("line() NOW, by a", acted.line(), 3);
        is("lineAt(2) NOW", acted.lineAt(2), 0);
        acted.turn(0);
        is("line() behind turn()", acted.line(), 3);
        is("lineAt(1) behind it", acted.lineAt(1), 2);
    }

    // ---- promises 14 to 21

    private void hearing() {
        wholeAtItsBounds();
        boundsAtFirst();
        noLessAndNoMore();
        cutInTheirOrder();
        heardAtItsEnds();
        boundsFromTheThroneOn();
        handedAsItCameOut();
    }

    /** 14. */
    private void wholeAtItsBounds() {
        is("whole() of a word", Due.of(Courts.ONE).whole(), 1);
        is("whole() of WIDE", Due.of(Courts.WIDE).whole(), 349);
        is("whole() of a THRONE that is a word", Due.of(Courts.WIDE + ";throne a").whole(), 1);
        is("whole() without what isn't below", Due.of(Courts.CUT + ";throne l").whole(), 2);
        is("whole() of CHAIN", Due.of(Courts.CHAIN).whole(), 1);
    }

    /** "(at first below and above all worths)": 0 and 99 themselves cut nothing. */
    private void boundsAtFirst() {
        KingHears king = Due.of("court slips 0;word a worth 99;word b worth 99;word c worth 0;king k a, b, c");
        is("hears() of 99 first", king.hears(), 3);
        is("cuts() of 99 first", king.cuts(), 0);
        is("hearsIn(0, 99) of 99 first", king.hearsIn(0, 99), 1);
        is("hearsIn(0, 98) of 99 first", king.hearsIn(0, 98), 1);
        KingHears queen = Due.of("court slips 0;word a worth 0;word b worth 0;word c worth 99;queen k a, b, c");
        is("hears() of 0 first", queen.hears(), 3);
        is("cuts() of 0 first", queen.cuts(), 0);
        is("hearsIn(0, 99) of 0 first", queen.hearsIn(0, 99), 1);
        is("hearsIn(1, 99) of 0 first", queen.hearsIn(1, 99), 1);
        KingHears chance = Due.of("court slips 0;word a worth 99;word b worth 5;king k a, b;word c worth 0;word d worth 5;"
            + "queen q c, d;chance o k 1, q 1");
        is("hears() of chance", chance.hears(), 4);
        is("hearsIn(0, 99) of chance, whose PARTS have bounds as at first", chance.hearsIn(0, 99), 4);
        is("hearsIn(98, 99) of chance", chance.hearsIn(98, 99), 4);
        due.fraction("handed(98, 99) of chance", chance.handed(98, 99, false), chance.handed(98, 99, true), 99, 2);
    }

    /** "as soon as the most is no less than the upper bound", "the least no more than the lower bound". */
    private void noLessAndNoMore() {
        String queen = "court slips 0;word a worth 50;word b worth 51;word c worth 60;queen q b, c;king top a, q";
        KingHears x = Due.of(queen);
        is("the least is 1 more: all are heard", x.hears(), 3);
        x.say(1, 50);
        is("it is no more: the other is cut", x.hears(), 2);
        is("which", x.cutAt(0), 2);
        x.say(1, 49);
        is("it is less", x.hears(), 2);
        String king = "court slips 0;word a worth 50;word b worth 49;word c worth 40;king k b, c;queen top a, k";
        KingHears y = Due.of(king);
        is("the most is 1 less: all are heard", y.hears(), 3);
        y.say(1, 50);
        is("it is no less: the other is cut", y.hears(), 2);
        y.say(1, 51);
        is("it is more", y.hears(), 2);
        KingHears third = Due.of("court slips 0;word a worth 50;word b worth 51;word c worth 60;chance o a 1, b 2;"
            + "queen q a, c;queen r b, c;king top o, q, r");
        is("152 by 3: 50 is no more, 51 is", third.hears(), 5);
        is("152 by 3 cuts", third.cuts(), 1);
        KingHears last = Due.of("court slips 0;word a worth 5;word b worth 9;word c worth 3;queen l a, b;queen r b, c;"
            + "king top l, r");
        is("as soon as it is so with the last one none is left to cut", last.cuts(), 0);
        is("all are heard then", last.hears(), 4);
    }

    /** 18, 19: "each time"; "of those CUT at once in their order". */
    private void cutInTheirOrder() {
        is("cutAt(0), asked for at once", Due.of(Courts.CUT).cutAt(0), 3);
        is("cuts(), asked for at once", Due.of(Courts.CUT).cuts(), 1);
        is("heard(), asked for at once", Due.of(Courts.CUT).heard(), 7);
        is("heardAt(2), asked for at once", Due.of(Courts.CUT).heardAt(2), 2);
        is("led(0), asked for at once", Due.of(Courts.CUT).led(0), 3);
        KingHears x = Due.of("court slips 0;word a worth 5;word b worth 4;word c worth 6;word d worth 7;queen q b, c, d, a;"
            + "king k a, q;queen r b, d, c;king top k, r, q");
        is("hears(): a b, b, b", x.hears(), 4);
        is("cuts()", x.cuts(), 8);
        int[] cut = {2, 3, 0, 3, 2, 2, 3, 0};
        for (int i = 0; i < 8; i++) {
            is("cutAt(" + i + ")", x.cutAt(i), cut[i]);
        }
        is("cutAt(8)", x.cutAt(8), -1);
        is("trouble() of it", x.trouble(), 1);
        x.front(4, 2);
        is("cuts() by the order NOW: d b are heard of q", x.cuts(), 6);
        is("cutAt(0) NOW", x.cutAt(0), 2);
        is("cutAt(1) NOW", x.cutAt(1), 0);
    }

    /** 16, 17. */
    private void heardAtItsEnds() {
        KingHears x = Due.of(Courts.WIDE);
        is("heardAt(0): l h d", x.heardAt(0), 3);
        is("heardAt(1): l h e a", x.heardAt(1), 0);
        is("heardAt(348), the last", x.heardAt(348), 3);
        is("heardAt(349)", x.heardAt(349), -1);
        is("trouble() of it", x.trouble(), 1);
        KingHears one = Due.of(Courts.ONE);
        is("heardAt(0) of a word", one.heardAt(0), 0);
        is("heardAt(1) of a word", one.heardAt(1), -1);
        is("heard() of a word", one.heard(), 1);
        is("cutAt(0) of a word", one.cutAt(0), -1);
        KingHears ten = Due.of(Courts.TEN_WORDS);
        is("heard() of the tenth alone", ten.heard(), 512);
    }

    /** 20: "(0 .. 99, the lower one less)": (0, 1), (98, 99), (0, 99). */
    private void boundsFromTheThroneOn() {
        KingHears x = Due.of("court slips 0;word a worth 1;word b worth 98;word c worth 99;king k a, b, c");
        is("hearsIn(0, 1)", x.hearsIn(0, 1), 1);
        is("trouble() of it", x.trouble(), 0);
        is("hearsIn(0, 2)", x.hearsIn(0, 2), 2);
        is("hearsIn(0, 98)", x.hearsIn(0, 98), 2);
        is("hearsIn(98, 99)", x.hearsIn(98, 99), 3);
        is("trouble() of it", x.trouble(), 0);
        is("hearsIn(0, 99)", x.hearsIn(0, 99), 3);
        is("handed(0, 1)", x.handed(0, 1, false), 1);
        is("handed(98, 99)", x.handed(98, 99, false), 99);
        KingHears q = Due.of("court slips 0;word a worth 98;word b worth 1;word c worth 0;queen k a, b, c");
        is("hearsIn(98, 99) of a queen", q.hearsIn(98, 99), 1);
        is("hearsIn(97, 99) of a queen", q.hearsIn(97, 99), 2);
        is("hearsIn(1, 99) of a queen", q.hearsIn(1, 99), 2);
        is("hearsIn(0, 1) of a queen", q.hearsIn(0, 1), 3);
        is("handed(1, 99) of a queen", q.handed(1, 99, false), 1);
        is("hearsIn of a word", Due.of(Courts.ONE).hearsIn(50, 51), 1);
        is("handed of a word, as it is", Due.of(Courts.ONE).handed(50, 51, false), 7);
        is("hears() is not changed by it", q.hears(), 3);
    }

    /** 21: "handed up as it came out (the most, the least so far)", not as the bounds are; 0 by 1. */
    private void handedAsItCameOut() {
        KingHears x = Due.of(Courts.CUT);
        due.fraction("handed(50, 60): a and c are enough, 5 the most", x.handed(50, 60, false), x.handed(50, 60, true), 5, 1);
        is("hearsIn(50, 60)", x.hearsIn(50, 60), 2);
        due.fraction("handed(1, 2): l is 5 by a, b", x.handed(1, 2, false), x.handed(1, 2, true), 5, 1);
        KingHears zero = Due.of("court slips 0;word a worth 0;word b worth 0;chance o a 3, b 5");
        due.fraction("handed of 0", zero.handed(0, 1, false), zero.handed(0, 1, true), 0, 1);
        KingHears sole = Due.of("court slips 0;word a worth 42;chance o a 1;king k o");
        due.fraction("handed of a weight alone", sole.handed(0, 99, false), sole.handed(0, 99, true), 42, 1);
        is("asks(42) of it", sole.asks(42), 1);
        is("asks(43) of it", sole.asks(43), 0);
        KingHears up = Due.of("court slips 0;word a worth 70;word b worth 20;word c worth 90;word d worth 10;king k a, c;"
            + "king l c, d;queen top k, l, b");
        due.fraction("k's most so far is 70, above the upper bound", up.handed(0, 30, false), up.handed(0, 30, true), 20, 1);
        is("hearsIn(0, 30): a, c, b", up.hearsIn(0, 30), 3);
        due.fraction("handed(80, 85): k is 90 by a, c; l too; b is less", up.handed(80, 85, false),
            up.handed(80, 85, true), 20, 1);
        is("hearsIn(80, 85): a, c, c, b", up.hearsIn(80, 85), 4);
        due.fraction("handed(70, 71): the queen has 90, 90, 20", up.handed(70, 71, false), up.handed(70, 71, true), 20, 1);
    }

    // ---- promises 22 to 25

    private void questions() {
        askedAtBounds();
        askedTillOneIs();
        byHalves();
    }

    /** 22: 0 .. 99; so much "or more". */
    private void askedAtBounds() {
        KingHears x = Due.of("court slips 0;word a worth 0");
        is("asks(0) of 0", x.asks(0), 1);
        is("asks(1) of 0", x.asks(1), 0);
        is("askBreaths(0) of 0: it asks all the same", x.askBreaths(0), 1);
        x.say(0, 99);
        is("asks(99) of 99", x.asks(99), 1);
        is("trouble() of it", x.trouble(), 0);
        is("askBreaths(99)", x.askBreaths(99), 1);
        x.say(0, 98);
        is("asks(99) of 98", x.asks(99), 0);
        is("trouble() of 0", x.trouble(), 0);
        KingHears third = Due.of("court slips 0;word a worth 98;word b worth 99;chance o a 1, b 8");
        is("asks(98) of 890 by 9", third.asks(98), 1);
        is("asks(99) of 890 by 9", third.asks(99), 0);
        is("askBreaths(0) of chance", third.askBreaths(0), 2);
    }

    /** 23: a king's till one is, a queen's till one isn't. */
    private void askedTillOneIs() {
        KingHears king = Due.of("court slips 0;word a worth 10;word b worth 20;word c worth 30;king k a, b, c");
        int[][] dues = {{0, 1}, {10, 1}, {11, 2}, {20, 2}, {21, 3}, {30, 3}, {31, 3}, {99, 3}};
        for (int[] d : dues) {
            is("a king's askBreaths(" + d[0] + ")", king.askBreaths(d[0]), d[1]);
        }
        KingHears queen = Due.of("court slips 0;word a worth 30;word b worth 20;word c worth 10;queen k a, b, c");
        int[][] others = {{0, 3}, {10, 3}, {11, 3}, {20, 3}, {21, 2}, {30, 2}, {31, 1}, {99, 1}};
        for (int[] d : others) {
            is("a queen's askBreaths(" + d[0] + ")", queen.askBreaths(d[0]), d[1]);
        }
        KingHears mixed = Due.of("court slips 0;word a worth 50;word b worth 40;word c worth 60;queen q a, b, c;"
            + "king k b, c, a;queen top k, q");
        is("asks(60): k b c, q a", mixed.askBreaths(60), 3);
        is("asks(40): k b, q a b c", mixed.askBreaths(40), 4);
        is("asks(61): k b c a", mixed.askBreaths(61), 3);
    }

    /** 24, 25: for 0: 50, 25, 12, 6, 3, 1; for 99: 50, 75, 87, 93, 96, 98, 99. */
    private void byHalves() {
        KingHears x = Due.of("court slips 0;word a worth 0;word b worth 0;king k a, b");
        is("questions() of 0", x.questions(), 6);
        is("halves() of 0, both each time", x.halves(), 12);
        x.say(0, 99);
        is("questions() of 99", x.questions(), 7);
        is("halves() of 99, the first each time", x.halves(), 7);
        x.say(0, 98);
        is("questions() of 98: 50, 75, 87, 93, 96, 98, 99", x.questions(), 7);
        is("halves() of 98, both the last time", x.halves(), 8);
        x.say(0, 1);
        is("questions() of 1: 50, 25, 12, 6, 3, 1, 2", x.questions(), 7);
        is("halves() of 1: all but the sixth ask both", x.halves(), 13);
        x.say(0, 50);
        is("questions() of 50: 50, 75, 62, 56, 53, 51", x.questions(), 6);
        is("halves() of 50", x.halves(), 11);
        x.say(0, 49);
        is("questions() of 49: 50, 25, 37, 43, 46, 48, 49", x.questions(), 7);
        KingHears half = Due.of("court slips 0;word a worth 50;word b worth 51;chance o a 1, b 1");
        is("questions() of 101 by 2, downwards", half.questions(), 6);
        is("halves() of it", half.halves(), 12);
    }

    // ---- promises 26 to 28

    /** "(0 .. 100)"; "-2 it isn't so"; "of like ones the least bits". */
    private void proofs() {
        KingHears x = Due.of("court slips 0;word a worth 99;word b worth 99;king k a, b;queen q a, b;throne k");
        is("proof(0) needs no word", x.proof(0), 0);
        is("proof(99), of like ones the least bits", x.proof(99), 1);
        is("proof(100)", x.proof(100), -2);
        is("trouble() of -2", x.trouble(), 0);
        is("disproof(100) needs no word", x.disproof(100), 0);
        is("disproof(99)", x.disproof(99), -2);
        is("disproof(0)", x.disproof(0), -2);
        is("sure() of 99: one is enough", x.sure(), 1);
        x.say(0, 98);
        is("sure() of 99 by the other", x.sure(), 2);
        x.say(1, 98);
        is("sure() of 98 needs both", x.sure(), 3);
        is("disproof(99) of 98", x.disproof(99), 3);
        KingHears q = Due.of("court slips 0;word a worth 0;word b worth 0;queen q a, b");
        is("sure() of 0: one is enough", q.sure(), 1);
        is("proof(1) of 0", q.proof(1), -2);
        is("disproof(1) of 0", q.disproof(1), 1);
        is("disproof(0) of 0", q.disproof(0), -2);
        is("proof(0) of 0", q.proof(0), 0);
        proofsOfOthers();
    }

    /** "whatever the others are (0 .. 99)": 0 and 99 themselves count. */
    private void othersAtTheirBounds() {
        KingHears low = Due.of("court slips 0;word a worth 1;word b worth 5;queen q a, b");
        is("sure() of 1: b could be 0", low.sure(), 3);
        is("proof(1): both could be 0", low.proof(1), 3);
        is("disproof(2): a is enough", low.disproof(2), 1);
        KingHears high = Due.of("court slips 0;word a worth 98;word b worth 5;king k a, b");
        is("sure() of 98: b could be 99", high.sure(), 3);
        is("disproof(99): both could be 99", high.disproof(99), 3);
        is("proof(98): a is enough", high.proof(98), 1);
        KingHears half = Due.of("court slips 0;word a worth 49;word b worth 5;chance o a 1, b 1");
        is("proof(24): a alone, 49 by 2, is more", half.proof(24), 1);
        is("proof(25)", half.proof(25), 3);
        is("disproof(74): b alone makes at most 104 by 2", half.disproof(74), 2);
        is("disproof(75): a alone makes at most 148 by 2", half.disproof(75), 1);
    }

    private void proofsOfOthers() {
        othersAtTheirBounds();
        KingHears word = Due.of("court slips 0;word z worth 5;word a worth 40");
        is("proof(40) of a word", word.proof(40), 2);
        is("proof(41) of a word", word.proof(41), -2);
        is("disproof(41) of a word", word.disproof(41), 2);
        is("disproof(40) of a word", word.disproof(40), -2);
        is("sure() of a word", word.sure(), 2);
        KingHears chance = Due.of("court slips 0;word a worth 50;word b worth 60;word c worth 99;chance o a 2, b 1, c 1");
        is("proof(64): (100 + 60 + 99) by 4 is more than 64", chance.proof(64), 7);
        is("proof(49): a and c, 199 by 4, is more", chance.proof(49), 5);
        is("proof(50) needs all", chance.proof(50), 7);
        is("proof(39): a and b, 160 by 4, is more and has less bits than a and c", chance.proof(39), 3);
        is("proof(25): a alone, 100 by 4, is just that", chance.proof(25), 1);
        is("proof(26)", chance.proof(26), 3);
        is("disproof(65): 259 by 4 is less", chance.disproof(65), 3);
        is("sure() of chance needs all", chance.sure(), 7);
        KingHears ten = Due.of("court slips 0;word a worth 9;word b worth 9;word c worth 9;word d worth 9;word e worth 9;"
            + "word f worth 9;word g worth 9;word h worth 9;word i worth 9;word j worth 9;king k a, b, c, d;"
            + "king l e, f, g, h;king m i, j, k, l");
        is("proof(9) of ten", ten.proof(9), 1);
        is("disproof(10) of ten", ten.disproof(10), 1023);
        is("sure() of ten", ten.sure(), 1023);
    }

    // ---- promises 29 to 32

    private void orders() {
        KingHears x = Due.of("court slips 0;word a worth 9;word b worth 5;word c worth 5;word d worth 1;word far worth 2;"
            + "king k b, c, d, a;queen top k, b;king out far, a;throne top");
        is("first(5), like ones: the first as they stand NOW", x.first(5), 1);
        is("firstBreaths(5)", x.firstBreaths(5), 5);
        is("first(6): b first, so that k's b is no less", x.first(6), 1);
        is("firstBreaths(6)", x.firstBreaths(6), 2);
        is("first(7), which isn't below the THRONE", x.first(7), 4);
        is("firstBreaths(7)", x.firstBreaths(7), 5);
        is("first(0) of a word", x.first(0), -2);
        is("trouble() of -2", x.trouble(), 0);
        is("firstBreaths(4) of a word", x.firstBreaths(4), -2);
        is("trouble() of -2", x.trouble(), 0);
        x.front(6, 1);
        is("first(5) NOW: b is enough", x.first(5), 1);
        is("firstBreaths(5) NOW", x.firstBreaths(5), 2);
        x.front(5, 1);
        is("first(5): c is enough, too, and stands first NOW", x.first(5), 2);
        x.front(5, 2);
        is("first(5): c is the first such behind d", x.first(5), 2);
        KingHears one = Due.of(Courts.CHAIN);
        is("first of one PART", one.first(1), 0);
        is("firstBreaths of one PART", one.firstBreaths(1), 1);
        is("first(8)", one.first(8), 7);
        orderMeans();
    }

    /** q r t and q t r need 5, r q t, r t q and t q r 7, t r q 9: from whichever order, all six are tried. */
    private void leastOfAllOrders() {
        String text = "court slips 0;word a worth 1;word b worth 2;word c worth 3;word d worth 4;word e worth 5;"
            + "queen q c, d, e;queen r b, d, e;queen t a, c, d;king top q, r, t";
        int[][] fronts = {{}, {1}, {2}, {1, 2}, {2, 2}, {2, 1}};
        int[] hears = {5, 7, 7, 9, 7, 5};
        for (int i = 0; i < 6; i++) {
            KingHears x = Due.of(text);
            for (int place : fronts[i]) {
                x.front(8, place);
            }
            is("hears() in the order " + i, x.hears(), hears[i]);
            is("orderLeast(8) from the order " + i, x.orderLeast(8), 5);
            due.fraction("orderMean(8) from the order " + i, x.orderMean(8, false), x.orderMean(8, true), 20, 3);
        }
        KingHears two = Due.of(Courts.TOP);
        is("orderLeast(6): the other order is better", two.orderLeast(6), 5);
        two.front(6, 1);
        is("orderLeast(6): the order NOW is better", two.orderLeast(6), 5);
    }

    /** "(of a word: as it is)"; one PART has one order, four have 24. */
    private void orderMeans() {
        leastOfAllOrders();
        KingHears x = Due.of("court slips 0;word z worth 1;word a worth 1;word b worth 2;word c worth 3;word d worth 4;"
            + "queen q a, b, c, d;king top z, q");
        due.fraction("orderMean(0) of a word", x.orderMean(0, false), x.orderMean(0, true), 2, 1);
        is("trouble() of it", x.trouble(), 0);
        is("orderLeast(0) of a word", x.orderLeast(0), 2);
        due.fraction("orderMean(5): 2, 3, 4, 5 each as likely", x.orderMean(5, false), x.orderMean(5, true), 7, 2);
        is("orderLeast(5)", x.orderLeast(5), 2);
        due.fraction("orderMean(6): 2 or 5", x.orderMean(6, false), x.orderMean(6, true), 7, 2);
        x.say(2, 1);
        due.fraction("orderMean(5): the first of two, 1 and 2 thirds on", x.orderMean(5, false), x.orderMean(5, true), 8, 3);
        x.front(5, 3);
        due.fraction("orderMean(5) of another order NOW", x.orderMean(5, false), x.orderMean(5, true), 8, 3);
        is("hears() is not changed by it: z d a", x.hears(), 3);
        KingHears one = Due.of(Courts.CHAIN);
        due.fraction("orderMean of one PART", one.orderMean(8, false), one.orderMean(8, true), 1, 1);
        is("orderLeast of one PART", one.orderLeast(8), 1);
        KingHears out = Due.of(Courts.CUT + ";throne l");
        due.fraction("orderMean of what isn't below the THRONE", out.orderMean(7, false), out.orderMean(7, true), 2, 1);
        KingHears full = Due.of(Courts.WIDE);
        is("orderLeast(11), nothing but kings", full.orderLeast(11), 349);
        due.fraction("orderMean(11)", full.orderMean(11, false), full.orderMean(11, true), 349, 1);
    }

    // ---- promises 33 and 34

    /** "(0 .. 9)"; "NODES d steps below the THRONE that are no words count 50". */
    private void nights() {
        KingHears x = Due.of(Courts.CHAIN);
        for (int d = 0; d <= 9; d++) {
            due.fraction("night(" + d + ")", x.night(d, false), x.night(d, true), d < 8 ? 50 : 7, 1);
            is("trouble() of it", x.trouble(), 0);
        }
        is("settles() as late as can be", x.settles(), 8);
        x.say(0, 50);
        is("settles() of 50", x.settles(), 0);
        KingHears word = Due.of(Courts.ONE);
        due.fraction("night(0) of a THRONE that is a word", word.night(0, false), word.night(0, true), 7, 1);
        is("night(9) of it", word.night(9, false), 7);
        is("settles() of it", word.settles(), 0);
        KingHears zero = Due.of("court slips 0;word a worth 0;chance o a 5;queen q o, a");
        due.fraction("night(0)", zero.night(0, false), zero.night(0, true), 50, 1);
        due.fraction("night(1): a word is no less on any night", zero.night(1, false), zero.night(1, true), 0, 1);
        is("settles() by the word", zero.settles(), 1);
        KingHears twice = Due.of("court slips 0;word a worth 20;word b worth 80;king k a;queen l k, b;chance top k 1, l 1");
        due.fraction("night(1)", twice.night(1, false), twice.night(1, true), 50, 1);
        due.fraction("night(2): k is 20, and 50 below l", twice.night(2, false), twice.night(2, true), 35, 1);
        due.fraction("night(3)", twice.night(3, false), twice.night(3, true), 20, 1);
        is("settles()", twice.settles(), 3);
        KingHears comes = Due.of("court slips 0;word a worth 70;word b worth 30;queen k b;chance top a 1, k 1");
        is("settles(): 50, 60, 50", comes.settles(), 2);
        KingHears low = Due.of("court slips 0;word a worth 10;king k a;throne a");
        is("night(0) of a word below a counsel", low.night(0, false), 10);
        low.say(0, 11);
        is("night(0) NOW", low.night(0, false), 11);
        zero.say(0, 9);
        is("night(1) NOW", zero.night(1, false), 9);
        is("night(2) NOW", zero.night(2, false), 9);
    }

    // ---- promises 35 and 36

    /** "(within 0 .. 99)"; "-2 it never does"; "the first such". */
    private void turns() {
        KingHears x = Due.of("court slips 0;word a worth 0");
        is("turn(0) of 0, upwards alone", x.turn(0), 1);
        x.say(0, 99);
        is("turn(0) of 99, downwards alone", x.turn(0), 1);
        KingHears king = Due.of("court slips 0;word a worth 0;word b worth 98;king k a, b");
        is("turn(0): 99 is more than 98", king.turn(0), 99);
        is("turn(1)", king.turn(1), 1);
        is("pivot()", king.pivot(), 1);
        king.say(1, 99);
        is("turn(0): nothing is more than 99", king.turn(0), -2);
        is("trouble() of -2", king.trouble(), 0);
        is("turn(1): 98", king.turn(1), 1);
        KingHears queen = Due.of("court slips 0;word a worth 99;word b worth 1;queen k a, b");
        is("turn(0): 0 is less than 1", queen.turn(0), 99);
        queen.say(1, 0);
        is("turn(0): nothing is less than 0", queen.turn(0), -2);
        is("turn(1)", queen.turn(1), 1);
        KingHears both = Due.of("court slips 0;word a worth 40;word b worth 50;word c worth 45;queen q a, b;king k q, c");
        is("turn(0): 46 up, none down", both.turn(0), 6);
        is("turn(1)", both.turn(1), -2);
        is("turn(2)", both.turn(2), 1);
        KingHears like = Due.of("court slips 0;word far worth 5;word a worth 40;word b worth 60;chance o a 1, b 1;king k o");
        is("turn of what isn't below", like.turn(0), -2);
        is("pivot(), the first of like ones", like.pivot(), 1);
        KingHears none = Due.of("court slips 0;word a worth 99;word b worth 99;king k a, b");
        is("pivot() where none does", none.pivot(), -2);
        is("trouble() of -2", none.trouble(), 0);
        none.say(1, 98);
        is("pivot() where one does", none.pivot(), 0);
        everyTurn();
        KingHears last = Due.of(Courts.TEN_WORDS + ";king k j, a");
        is("pivot() that is the tenth word", last.pivot(), 9);
        is("turn(9)", last.turn(9), 1);
    }

    /** Upwards and downwards by all that it can be; of two ways the lesser. */
    private void everyTurn() {
        KingHears up = Due.of("court slips 0;word a worth 0;word b worth 50;king k a, b");
        KingHears down = Due.of("court slips 0;word a worth 99;word b worth 50;queen k a, b");
        for (int worth = 0; worth < 99; worth++) {
            up.say(1, worth);
            is("turn(0) up to " + (worth + 1), up.turn(0), worth + 1);
            down.say(1, 99 - worth);
            is("turn(0) down to " + (98 - worth), down.turn(0), worth + 1);
        }
        KingHears both = Due.of("court slips 0;word a worth 50;word b worth 60;word c worth 48;king k a, b;queen q a, c;"
            + "chance o k 1, q 1");
        is("turn(0): 61 or 47", both.turn(0), 3);
        both.say(1, 51);
        is("turn(0): 52 or 47", both.turn(0), 2);
        both.say(0, 51);
        is("turn(0) NOW: 52 alone is near", both.turn(0), 1);
        KingHears acted = Due.of("court slips 0;word a worth 90;word b worth 95;king k a, b");
        acted.say(0, 2);
        is("turn(0) NOW: 96", acted.turn(0), 94);
        acted.say(0, 94);
        is("turn(0) NOW: 96", acted.turn(0), 2);
        acted.say(1, 90);
        acted.say(0, 99);
        is("turn(0) NOW: down to 98", acted.turn(0), 1);
        is("turn(1) NOW: never", acted.turn(1), -2);
        KingHears first = Due.of("court slips 0;word a worth 20;word b worth 10;word c worth 20;chance o a 1;king k b, c;"
            + "king l o, k");
        is("turn(0): 21", first.turn(0), 1);
        is("turn(1): 21", first.turn(1), 11);
        is("pivot(): the first word, later ones being more or like", first.pivot(), 0);
        first.say(0, 9);
        is("pivot() NOW", first.pivot(), 2);
    }

    // ---- promises 37 to 42

    private void unsureWords() {
        noneUnsure();
        fourUnsure();
        fitsDownwards();
        asToldAtFirst();
        whichToAsk();
    }

    private void noneUnsure() {
        KingHears x = Due.of(Courts.ONE);
        is("fits(): the empty set", x.fits(), 1);
        is("fitAt(0)", x.fitAt(0), 0);
        is("fitAt(1)", x.fitAt(1), -1);
        is("could()", x.could(), 0);
        is("surely()", x.surely(), 0);
        is("ask() without an unsure word", x.ask(), -2);
        is("trouble() of -2", x.trouble(), 0);
        is("askLeaves() without", x.askLeaves(), -2);
        is("trouble() of -2", x.trouble(), 0);
        KingHears y = Due.of(Courts.ONE + ";said 8");
        is("fits() of what was said otherwise", y.fits(), 0);
        is("surely() without a set", y.surely(), 0);
        is("ask() without a set", y.ask(), -2);
    }

    /** "(all, if nothing was)": all 16 sets of four. */
    private void fourUnsure() {
        String text = "court slips 0;word a worth 1;word b worth 2;word c worth 3;word d worth 4;king k a, b, c, d;"
            + "unsure d 9;unsure c 8;unsure b 7;unsure a 6";
        KingHears x = Due.of(text);
        is("fits()", x.fits(), 16);
        for (int i = 0; i < 16; i++) {
            is("fitAt(" + i + ")", x.fitAt(i), i);
        }
        is("fitAt(16)", x.fitAt(16), -1);
        is("trouble() of it", x.trouble(), 1);
        is("could()", x.could(), 15);
        is("surely()", x.surely(), 0);
        is("ask(), the first of like ones as told", x.ask(), 3);
        is("askLeaves()", x.askLeaves(), 8);
        KingHears six = Due.of(text + ";said 6");
        is("fits() of 6: a alone is the other WHOLE", six.fits(), 1);
        is("fitAt(0), a being the fourth told", six.fitAt(0), 8);
        is("fitAt(1)", six.fitAt(1), -1);
        is("could()", six.could(), 8);
        is("surely()", six.surely(), 8);
        is("ask(): one is left in any case, the first as told", six.ask(), 3);
        is("askLeaves()", six.askLeaves(), 1);
        KingHears nine = Due.of(text + ";said 9");
        is("fits() of 9: d is, the others as they may", nine.fits(), 8);
        is("fitAt(0)", nine.fitAt(0), 1);
        is("fitAt(7), the last", nine.fitAt(7), 15);
        is("fitAt(8)", nine.fitAt(8), -1);
        is("surely()", nine.surely(), 1);
        is("could()", nine.could(), 15);
        is("ask(): d would leave 8, c leaves 4", nine.ask(), 2);
        is("askLeaves()", nine.askLeaves(), 4);
        KingHears five = Due.of(text + ";said 5");
        is("fits() of what it can't be", five.fits(), 0);
        is("could() then", five.could(), 0);
        is("surely() then", five.surely(), 0);
        is("askLeaves() then", five.askLeaves(), -2);
        is("fitAt(0) then", five.fitAt(0), -1);
    }

    /** "worth what was said, downwards". */
    private void fitsDownwards() {
        String text = "court slips 0;word a worth 50;word b worth 51;chance o a 1, b 2;unsure b 99;said ";
        is("152 by 3 is 50", Due.of(text + 50).fits(), 1);
        is("it is not 51", Due.of(text + 51).fits(), 0);
        is("248 by 3 is 82", Due.of(text + 82).fitAt(0), 1);
        is("it is not 83", Due.of(text + 83).fits(), 0);
        is("0 was said", Due.of("court slips 0;word a worth 1;unsure a 0;said 0").fitAt(0), 1);
        is("99 was said", Due.of("court slips 0;word a worth 98;unsure a 99;said 99").fitAt(0), 1);
    }

    /** "all else as told at first": SAY and FRONT change no FITS. */
    private void asToldAtFirst() {
        KingHears x = Due.of(Courts.TOP);
        x.say(2, 0);
        x.say(3, 99);
        x.say(4, 0);
        x.front(8, 2);
        is("fits()", x.fits(), 2);
        is("fitAt(0)", x.fitAt(0), 0);
        is("fitAt(1)", x.fitAt(1), 1);
        is("could()", x.could(), 1);
        is("ask()", x.ask(), 3);
        is("askLeaves()", x.askLeaves(), 1);
    }

    private void whichToAsk() {
        KingHears like = Due.of("court slips 0;word a worth 5;word b worth 5;unsure b 5;unsure a 5;said 5;king k a, b");
        is("fits() where the other WHOLE is the same", like.fits(), 4);
        is("ask(), as told", like.ask(), 1);
        KingHears later = Due.of("court slips 0;word a worth 1;word b worth 2;word c worth 3;queen q b, c;king k a, q;"
            + "unsure a 9;unsure b 8;unsure c 7;said 7");
        is("fits() of 7: b and c, not a", later.fits(), 1);
        is("fitAt(0)", later.fitAt(0), 6);
        is("surely()", later.surely(), 6);
        KingHears three = Due.of("court slips 0;word a worth 1;word b worth 2;word c worth 3;king k a, b, c;"
            + "unsure a 3;unsure b 3;unsure c 0;said 3");
        is("fits() of 3: all but those with c and neither a nor b", three.fits(), 7);
        is("ask(): each leaves 4 or 3, the first as told", three.ask(), 0);
        is("askLeaves()", three.askLeaves(), 4);
    }

    // ---- promises 43 and 44

    /** slips 0 and 100; much 0 and 99; "all else as NOW". */
    private void slips() {
        String text = ";word a worth 20;word b worth 40;king k a, b;unsure a 99;unsure b 0";
        KingHears never = Due.of("court slips 0" + text);
        due.fraction("odds(40) without slips", never.odds(40, false), never.odds(40, true), 1, 1);
        due.fraction("odds(41) without slips", never.odds(41, false), never.odds(41, true), 0, 1);
        due.fraction("mean() without slips", never.mean(false), never.mean(true), 40, 1);
        KingHears always = Due.of("court slips 100" + text);
        due.fraction("odds(99) with slips always", always.odds(99, false), always.odds(99, true), 1, 1);
        due.fraction("mean() with slips always", always.mean(false), always.mean(true), 99, 1);
        KingHears once = Due.of("court slips 1" + text);
        due.fraction("odds(0)", once.odds(0, false), once.odds(0, true), 1, 1);
        is("trouble() of it", once.trouble(), 0);
        due.fraction("odds(99): 1 of 100", once.odds(99, false), once.odds(99, true), 1, 100);
        is("trouble() of it", once.trouble(), 0);
        due.fraction("odds(40): not, if only b slips: 99 of 10000", once.odds(40, false), once.odds(40, true), 9901, 10000);
        due.fraction("mean(): 0.01 times 99, 0.9801 times 40, 0.0099 times 20", once.mean(false), once.mean(true), 5049, 125);
        once.say(1, 0);
        due.fraction("odds(20) NOW", once.odds(20, false), once.odds(20, true), 1, 1);
        due.fraction("odds(21) NOW", once.odds(21, false), once.odds(21, true), 1, 100);
        due.fraction("mean() NOW: 0.99 times 20, 0.01 times 99", once.mean(false), once.mean(true), 2079, 100);
        once.say(0, 99);
        due.fraction("odds(99) NOW: said is what it is worth if it doesn't slip", once.odds(99, false),
            once.odds(99, true), 1, 1);
        KingHears four = Due.of("court slips 1;word a worth 0;word b worth 0;word c worth 0;word d worth 0;"
            + "queen k a, b, c, d;unsure a 1;unsure b 1;unsure c 1;unsure d 1");
        due.fraction("odds(1): all four slip", four.odds(1, false), four.odds(1, true), 1, 100000000);
        due.fraction("mean() of it", four.mean(false), four.mean(true), 1, 100000000);
        due.fraction("odds(2)", four.odds(2, false), four.odds(2, true), 0, 1);
        KingHears none = Due.of(Courts.ONE.replace("slips 0", "slips 100"));
        due.fraction("odds(7) without an unsure word", none.odds(7, false), none.odds(7, true), 1, 1);
        due.fraction("mean() without one", none.mean(false), none.mean(true), 7, 1);
        due.fraction("mean() of 0", Due.of("court slips 3;word a worth 0").mean(false),
            Due.of("court slips 3;word a worth 0").mean(true), 0, 1);
    }

    // ---- promises 45 to 47

    /** envy 0 .. 9: of -9 the answer is no refusal. */
    private void foolAndMinister() {
        KingHears x = Due.of(Courts.ONE);
        for (int envy = 0; envy <= 9; envy++) {
            is("speaks alone", x.speaks(envy, true, false, false), 5);
            is("the other one then", x.speaks(envy, true, false, true), -envy);
            is("trouble() of it", x.trouble(), 0);
            is("is silent alone", x.speaks(envy, false, true, false), -envy);
            is("the other one then", x.speaks(envy, false, true, true), 5);
            is("both", x.speaks(envy, true, true, false), 2 - envy);
            is("both, the other one", x.speaks(envy, true, true, true), 2 - envy);
            is("none", x.speaks(envy, false, false, false), 1);
            is("none, the other one", x.speaks(envy, false, false, true), 1);
            is("rests(" + envy + "): silence is never better alone", x.rests(envy), 1);
            is("rest(" + envy + ")", x.rest(envy), 11);
            is("trouble() of it", x.trouble(), 0);
        }
    }

    // ---- promises 48 and 49

    /** 65,536 becomes itself: a PART of two stays, three turn by 1 of 65,536 mod 3, four stay. */
    private void draws() {
        KingHears x = Due.of(Courts.TOP);
        is("drawn(65536, 1): mid, odd, left", x.drawn(65536, 1), 5);
        is("trouble() of it", x.trouble(), 0);
        is("drawn(65536, 60)", x.drawn(65536, 60), 5);
        is("trouble() of it", x.trouble(), 0);
        is("drawnLeast(65536, 1)", x.drawnLeast(65536, 1), 5);
        is("drawnLeast(65536, 60)", x.drawnLeast(65536, 60), 5);
        x.front(8, 2);
        is("drawn(65536, 1) NOW: left, mid, odd", x.drawn(65536, 1), 6);
        x.front(8, 2);
        is("drawn(65536, 1) NOW: odd, left, mid", x.drawn(65536, 1), 4);
        is("drawn(65536, 2): each by the order NOW, not by the one ahead", x.drawn(65536, 2), 4);
        KingHears cut = Due.of(Courts.CUT);
        is("drawn(0, 1): 74, 5624, 28652, all even", cut.drawn(0, 1), 3);
        is("drawn(0, 2): 51790, 17641, 12409, r and top turn round", cut.drawn(0, 2), 4);
        is("drawnLeast(0, 1)", cut.drawnLeast(0, 1), 3);
        is("drawnLeast(0, 2)", cut.drawnLeast(0, 2), 3);
        is("drawn(1, 1): 149, 11249, 57305, all turn round", cut.drawn(1, 1), 4);
        is("drawnLeast(1, 1)", cut.drawnLeast(1, 1), 4);
        is("drawnLeast(5, 1): 449, 33749, 40843, all turn round", cut.drawnLeast(5, 1), 4);
        is("drawnLeast(5, 2): 48597, 40314, 8922, only l turns round", cut.drawnLeast(5, 2), 3);
        is("drawnLeast(0, 1), asked for at once", Due.of(Courts.CUT).drawnLeast(0, 1), 3);
        is("drawn(0, 1), asked for at once", Due.of(Courts.CUT).drawn(0, 1), 3);
        is("drawnLeast(1, 3): 4, 4, 4", cut.drawnLeast(1, 3), 4);
        cut.say(2, 6);
        is("drawnLeast(0, 1) NOW: c is 6", cut.drawnLeast(0, 1), 4);
        KingHears single = Due.of(Courts.CUT.replace("queen l", "king s far;queen l"));
        is("drawn(3, 1): 299 of a single PART, 22499, 49074, 10552", single.drawn(3, 1), 3);
        is("drawn(3, 1) without it: 299, 22499, 49074", Due.of(Courts.CUT).drawn(3, 1), 4);
        KingHears word = Due.of(Courts.ONE);
        is("drawn(0, 1) of a word", word.drawn(0, 1), 1);
        is("drawnLeast(65536, 60) of a word", word.drawnLeast(65536, 60), 1);
        KingHears one = Due.of(Courts.CHAIN);
        is("drawn(0, 60) of single PARTS", one.drawn(0, 60), 1);
    }

    // ---- promises 50 to 52

    private void acts() {
        sayAtBounds();
        frontAtEnds();
        sixteenAreKept();
        sixteenFronts();
        undoOfAll();
    }

    private void sayAtBounds() {
        KingHears x = Due.of("court slips 0;word a worth 5;king k a;word b worth 6;throne k");
        is("say(0, 0)", x.say(0, 0), true);
        is("trouble() of it", x.trouble(), 0);
        is("its worth", x.worth(0, false), 0);
        is("say(0, 99)", x.say(0, 99), true);
        is("its worth", x.worth(0, false), 99);
        is("the THRONE's", x.worth(1, false), 99);
        is("say(0, 5), what was told", x.say(0, 5), true);
        is("say(2, 99), the last NODE", x.say(2, 99), true);
        is("its worth", x.worth(2, false), 99);
        is("ACTS", x.size(5), 4);
        is("say(2, 99) again", x.say(2, 99), false);
        is("trouble() of it", x.trouble(), 5);
        is("ACTS then", x.size(5), 4);
    }

    private void frontAtEnds() {
        KingHears x = Due.of(Courts.FULL);
        is("front(17, 3), the last of four", x.front(17, 3), 13);
        is("trouble() of it", x.trouble(), 0);
        int[] parts = {13, 16, 15, 14};
        for (int i = 0; i < 4; i++) {
            is("part(17, " + i + ")", x.part(17, i), parts[i]);
        }
        is("front(17, 1)", x.front(17, 1), 16);
        is("front(17, 2)", x.front(17, 2), 15);
        int[] then = {15, 16, 13, 14};
        for (int i = 0; i < 4; i++) {
            is("part(17, " + i + ") then", x.part(17, i), then[i]);
        }
        is("front(17, 0)", x.front(17, 0), -1);
        is("trouble() of it", x.trouble(), 5);
        is("ACTS", x.size(5), 3);
        is("another NODE's order", x.part(16, 0), 15);
    }

    /** "(16 are kept)": of seventeen the first can't be undone. */
    private void sixteenAreKept() {
        KingHears x = Due.of(Courts.ONE);
        for (int i = 1; i <= 20; i++) {
            is("say(0, " + (20 + i) + ")", x.say(0, 20 + i), true);
            is("ACTS that can be undone", x.size(5), Math.min(i, 16));
        }
        for (int i = 19; i >= 4; i--) {
            is("undo()", x.undo(), true);
            is("trouble() of it", x.trouble(), 0);
            is("its worth then", x.worth(0, false), 20 + i);
            is("ACTS left", x.size(5), i - 4);
        }
        is("undo() beyond 16", x.undo(), false);
        is("trouble() of it", x.trouble(), 6);
        is("its worth stays", x.worth(0, false), 24);
        is("ACTS stay", x.size(5), 0);
        is("say(0, 50) then", x.say(0, 50), true);
        is("undo() of it", x.undo(), true);
        is("its worth", x.worth(0, false), 24);
        is("no undo is undone", x.undo(), false);
    }

    private void sixteenFronts() {
        KingHears x = Due.of(Courts.FULL);
        for (int i = 0; i < 16; i++) {
            x.front(17, 3);
        }
        is("front(17, 1), the seventeenth", x.front(17, 1), 15);
        is("ACTS", x.size(5), 16);
        for (int i = 0; i < 16; i++) {
            is("undo() of front", x.undo(), true);
        }
        is("undo() beyond 16", x.undo(), false);
        int[] parts = {13, 16, 15, 14};
        for (int i = 0; i < 4; i++) {
            is("part(17, " + i + ") behind the first front", x.part(17, i), parts[i]);
        }
    }

    /** 21 acts of both sorts, of several NODES, of which the oldest ones are forgotten. */
    private void manyMixedActs() {
        KingHears x = Due.of(Courts.TOP);
        for (int i = 0; i < 10; i++) {
            x.say(i % 5, i + 1);
            x.front(5 + i % 4, 1);
        }
        x.say(4, 99);
        is("ACTS", x.size(5), 16);
        for (int i = 0; i < 16; i++) {
            is("undo()", x.undo(), true);
        }
        is("undo() beyond 16", x.undo(), false);
        int[] worths = {1, 2, 3, 20, 90};
        for (int k = 0; k < 5; k++) {
            is("worth(" + k + ") behind the first five acts", x.worth(k, false), worths[k]);
        }
        int[][] parts = {{1, 0}, {3, 2}, {4, 0}, {5, 6, 7}};
        for (int k = 5; k < 9; k++) {
            for (int i = 0; i < parts[k - 5].length; i++) {
                is("part(" + k + ", " + i + ") behind them", x.part(k, i), parts[k - 5][i]);
            }
        }
    }

    /** Acts of both sorts, of several NODES, taken back one by one. */
    private void undoOfAll() {
        manyMixedActs();
        KingHears x = Due.of(Courts.TOP);
        x.say(0, 0);
        x.front(8, 2);
        x.say(4, 99);
        x.front(5, 1);
        is("undo() of front(5, 1)", x.undo(), true);
        is("part(5, 0)", x.part(5, 0), 0);
        is("part(8, 0) stays", x.part(8, 0), 7);
        is("undo() of say(4, 99)", x.undo(), true);
        is("worth(4)", x.worth(4, false), 90);
        is("undo() of front(8, 2)", x.undo(), true);
        is("part(8, 0)", x.part(8, 0), 5);
        is("part(8, 2)", x.part(8, 2), 7);
        is("worth(0) stays", x.worth(0, false), 0);
        is("undo() of say(0, 0)", x.undo(), true);
        is("worth(0)", x.worth(0, false), 30);
        is("undo() of nothing", x.undo(), false);
        x.say(0, 1);
        Due.court(x, "court");
        is("undo() behind a court() with a FAULT", x.undo(), true);
        is("worth(0) behind it", x.worth(0, false), 30);
    }

    // ---- promises 53 and 54

    /** "up to 3; gone back to one, nothing can be undone"; "(all IMAGES stay)". */
    private void images() {
        KingHears x = Due.of(Courts.TOP);
        for (int i = 0; i < 3; i++) {
            is("image()", x.image(), i);
            is("trouble() of it", x.trouble(), 0);
            is("IMAGES", x.size(6), i + 1);
            x.say(0, 50 + i);
            x.front(8, 2);
        }
        is("image(), the fourth", x.image(), -1);
        is("trouble() of it", x.trouble(), 3);
        is("ACTS", x.size(5), 6);
        int[] worths = {30, 50, 51};
        int[] firsts = {5, 7, 6};
        for (int i : new int[] {2, 0, 1, 1, 2}) {
            is("back(" + i + ")", x.back(i), true);
            is("trouble() of it", x.trouble(), 0);
            is("its worth", x.worth(0, false), worths[i]);
            is("its first PART", x.part(8, 0), firsts[i]);
            is("IMAGES stay", x.size(6), 3);
            is("nothing can be undone", x.size(5), 0);
            is("undo()", x.undo(), false);
            is("trouble() of undo()", x.trouble(), 6);
            is("say(0, 9) then", x.say(0, 9), true);
            is("front(8, 1) then", x.front(8, 1) >= 0, true);
            is("what comes then can be undone", x.size(5), 2);
        }
        is("undo() of what came then", x.undo() && x.undo(), true);
        is("its worth", x.worth(0, false), 51);
        is("its first PART", x.part(8, 0), 6);
        is("image() is full still", x.image(), -1);
        imagesAreOfTheCourt(x);
    }

    private void imagesAreOfTheCourt(KingHears x) {
        Due.feed(x, Courts.ONE);
        is("back(0)", x.back(0), true);
        is("THE TAPE stays as it is", x.size(7), 40);
        is("a new COURT", x.court(28), 1);
        is("it has no IMAGES", x.size(6), 0);
        is("back(0) of it", x.back(0), false);
        is("its first image", x.image(), 0);
        is("back(0) then", x.back(0), true);
        is("back(1)", x.back(1), false);
        is("trouble() of it", x.trouble(), 1);
    }

    // ---- promises 55 to 57

    private void whatIsTold() {
        ledAtItsEnds();
        sizes();
        troubles();
    }

    /** 55: i at the first, at the last, behind the last; the exception. */
    private void ledAtItsEnds() {
        KingHears x = Due.of(Courts.CUT);
        is("led(0)", x.led(0), 3);
        is("led(1), the last", x.led(1), 4);
        for (int i : new int[] {2, 3, -1, Integer.MIN_VALUE, Integer.MAX_VALUE}) {
            is("whether led(" + i + ") throws", Due.ledThrows(x, i), true);
        }
        is("led(1) behind an exception", x.led(1), 4);
        x.say(2, 6);
        is("led(0) NOW", x.led(0), 4);
        is("whether led(1) throws NOW", Due.ledThrows(x, 1), true);
        is("whether led(0) throws without a COURT", Due.ledThrows(new KingHears(), 0), true);
        is("whether led(0) throws if all are heard", Due.ledThrows(Due.of(Courts.ONE), 0), true);
        KingHears ten = Due.of(Courts.TEN_WORDS + ";throne a");
        is("led(0): the first word is heard", ten.led(0), 1);
        is("led(8)", ten.led(8), 9);
        is("whether led(9) throws", Due.ledThrows(ten, 9), true);
        is("led(0) that is the first word", Due.of(Courts.TEN_WORDS).led(0), 0);
        KingHears far = Due.of("court slips 0;word a worth 1;king k a;word b worth 1;throne k");
        is("led(0): by numbers, words alone", far.led(0), 2);
    }

    /** 56: "NONE for others; 0 for what there isn't". */
    private void sizes() {
        KingHears x = Due.of(Courts.FULL);
        int[] sizes = {100, 18, 10, 4, 1, 0, 0, 0};
        for (int what = 0; what < 8; what++) {
            is("size(" + what + ")", x.size(what), sizes[what]);
        }
        x.say(0, 5);
        x.image();
        is("trouble() ahead of size()", x.trouble(), 0);
        for (int what : new int[] {-1, 8, 9, Integer.MIN_VALUE, Integer.MAX_VALUE}) {
            is("size(" + what + ")", x.size(what), -1);
        }
        is("size() tells no number", x.trouble(), 0);
        is("size(5)", x.size(5), 1);
        is("size(6)", x.size(6), 1);
        KingHears none = new KingHears();
        none.feed(BLANKS, BLANKS, BLANKS, BLANKS, BLANKS);
        is("size(7) without a COURT", none.size(7), 20);
        is("size(8) without a COURT", none.size(8), -1);
        is("size(4) if 0 was said", Due.of(Courts.ONE + ";said 0").size(4), 1);
        is("size(4) if nothing was", Due.of(Courts.ONE).size(4), 0);
    }

    /** Terms IV: each number, and 0 behind a call that isn't refused. */
    private void troubles() {
        KingHears x = Due.of(Courts.ONE);
        is("0", x.trouble(), 0);
        x.node(1, 0);
        is("1 there is none such", x.trouble(), 1);
        x.asks(100);
        is("2 a number", x.trouble(), 2);
        for (int i = 0; i < 4; i++) {
            x.image();
        }
        is("3 no room", x.trouble(), 3);
        Due.court(x, "court");
        is("4 a FAULT", x.trouble(), 4);
        x.say(0, 7);
        is("5 not so", x.trouble(), 5);
        x.undo();
        is("6 there is none", x.trouble(), 6);
        is("trouble() tells the same again", x.trouble(), 6);
        x.best(0);
        is("0 behind -2", x.trouble(), 0);
        x.undo();
        x.say(0, 8);
        is("0 behind an act", x.trouble(), 0);
        x.image();
        x.undo();
        is("0 behind undo()", x.trouble(), 0);
        x.image();
        x.back(0);
        is("0 behind back()", x.trouble(), 0);
        x.image();
        Due.court(x, Courts.ONE);
        is("0 behind court()", x.trouble(), 0);
    }

    // ---- all that there is room for

    /** FULL: every worth is 99; unsure ones are 0 with slips always, but for j. */
    private void ofFull() {
        KingHears x = Due.of(Courts.FULL);
        is("whole(): ka 4, kb 4, kc 10, qa 19, qb 37, qc 64, ca 130, cb 250", x.whole(), 250);
        is("pivot(): a is a PART of qa", x.pivot(), 0);
        is("turn(1): ka has like ones", x.turn(1), -2);
        is("proof(99)", x.proof(99), 1 | 1 << 4);
        is("disproof(100)", x.disproof(100), 0);
        is("settles(): kc, five steps down at most, has words of its own", x.settles(), 6);
        is("night(9)", x.night(9, false), 99);
        is("fits(): all without a", x.fits(), 8);
        is("could()", x.could(), 14);
        is("surely()", x.surely(), 0);
        is("ask(): a would leave 8", x.ask(), 1);
        is("askLeaves()", x.askLeaves(), 4);
        due.fraction("mean(): qa, qb, qc are 0, ca is 99 by 4", x.mean(false), x.mean(true), 99, 16);
        due.fraction("odds(99): a is 0, and so is qa", x.odds(99, false), x.odds(99, true), 0, 1);
        is("line()", x.line(), 1);
        is("drawn(65536, 60)", x.drawn(65536, 60), x.hears());
        is("best(15)", x.best(15), 14);
        is("orderMean(17): chance hears all", x.orderMean(17, false), x.hears());
        for (int k = 0; k < 10; k++) {
            is("say(" + k + ", 50)", x.say(k, 50), true);
        }
        due.fraction("worth(17) of nothing but 50", x.worth(17, false), x.worth(17, true), 50, 1);
        is("settles() of 50", x.settles(), 0);
        is("sure(): all ten, for any could make its king 99", x.sure(), 1023);
    }
}
