/** Every bound that Terms I name: at its least, its most, one less and one more, with the FAULT and its place. */
public final class TextEdgesTest {
    private static final String FIVE = "court slips 0;word a worth 0;word b worth 1;word c worth 2;word d worth 3;word e worth 4";
    private static final String[] RESERVED = {"court", "word", "king", "queen", "chance", "throne", "unsure", "said"};

    private final TextDue texts = new TextDue();
    private final Due due = texts.due;

    public static void main(String[] args) {
        TextEdgesTest test = new TextEdgesTest();
        test.theTape();
        test.blanks();
        test.letters();
        test.digits();
        test.singleOnes();
        test.slips();
        test.words();
        test.parts();
        test.weights();
        test.counsels();
        test.throne();
        test.unsureOnes();
        test.said();
        test.names();
        test.namesNearlyAlike();
        test.numbering();
        test.theEnd();
        test.leastNumberOfOnePlace();
        test.firstFromTheLeft();
        test.allAtOnce();
        test.due.end("TextEdgesTest");
    }

    private void fault(int number, String marked) {
        texts.fault(number, marked);
    }

    private KingHears fine(String text, int nodes) {
        return texts.fine(text, nodes);
    }

    private static String blanksTo(int length, String text) {
        return text + " ".repeat(length - text.length());
    }

    /** "THE TAPE has 900 bytes": a TOKEN may end with the last of them. */
    private void theTape() {
        String start = "court slips 0;word x worth";
        String whole = blanksTo(898, start) + "42";
        due.same("a text of 900 bytes", fine(whole, 1).worth(0, false), 42);
        KingHears x = new KingHears();
        due.same("THE TAPE that is full", Due.feed(x, whole), 900);
        due.same("all but the last byte", x.court(899), 1);
        due.same("the worth that is told then", x.worth(0, false), 4);
        Due.feed(x, whole);
        due.same("all but the last two", x.court(898), -1);
        due.same("where() then", x.where(), 898);
        due.same("fault() then", x.fault(), 1);
        fault(1, blanksTo(899, start) + "|.");
        fault(1, " ".repeat(900) + "|");
        fault(1, " ".repeat(895) + "court|");
        fault(6, " ".repeat(896) + "|word");
        due.same("behind blanks", fine(" ".repeat(872) + Courts.ONE, 1).worth(0, false), 7);
    }

    /** "blanks, 32, part TOKENS and mean nothing else". */
    private void blanks() {
        fine(" court slips 0;word x worth 7", 1);
        fine("court  slips   0 ; word    x worth 7 ", 1);
        fine("court slips0;word x worth7", 1);
        fine("court slips 0;word x worth 7;word y worth 8;king k x,y", 3);
        fine("court slips 0;word x worth 7;word y worth 8;king k x ,  y  ;throne  x ", 3);
        fine("court slips 0;word x worth 7;chance k x1", 2);
        fault(1, "|courtslips 0;word x worth 7");
        fault(1, "court slips 0;word xworth |7");
        fault(1, "court slips 0;word x worth 1 |2");
        fault(2, "court slips 0;word xy worth 1;king k |x y");
        for (char sign : new char[] {0, 9, 10, 13, 31, 33, 127, 160, 255}) {
            fault(1, "court slips 0;word x worth 7|" + sign);
            fault(1, "|" + sign + "court slips 0;word x worth 7");
            fault(1, "court|" + sign + "slips 0;word x worth 7");
        }
    }

    /** "WORDS of 1 to 8 small letters that stand together". */
    private void letters() {
        fine("court slips 0;word a worth 7", 1);
        fine("court slips 0;word z worth 7", 1);
        fine("court slips 0;word abcdefgh worth 7", 1);
        fine("court slips 0;word zzzzzzzz worth 7;throne zzzzzzzz", 1);
        fault(1, "court slips 0;word |abcdefghi worth 7");
        fault(1, "court slips 0;word |zzzzzzzzz worth 7");
        fault(1, "court slips 0;word |aaaaaaaaaaaaaaaaaaaaaaaaa worth 7");
        fault(1, FIVE + ";king k |abcdefghi");
        fault(1, FIVE + ";king k a, |abcdefghi");
        fault(1, FIVE + ";throne |abcdefghi");
        fault(1, FIVE + ";unsure |abcdefghi 1");
        fault(1, "|courtcourt slips 0");
        fault(1, "court |slipsslips 0");
        for (char sign : new char[] {'A', 'Z', '@', '[', '`', '{', '_', '-', 228}) {
            fault(1, "court slips 0;word |" + sign + " worth 7");
            fault(1, "court slips 0;word a|" + sign + " worth 7");
        }
        fault(1, "|Court slips 0;word a worth 7");
        fault(1, "|COURT slips 0;word a worth 7");
        fault(1, "court slips 0;|words a worth 7");
        fault(1, "court slips 0;|wor a worth 7");
        fault(1, "court |slip 0;word a worth 7");
        fault(1, "court slips 0;word a |worths 7");
    }

    /** "WHOLES of 1 to 3 digits that do": also with naughts ahead. */
    private void digits() {
        due.same("one digit", fine("court slips 0;word a worth 7", 1).worth(0, false), 7);
        due.same("two digits", fine("court slips 0;word a worth 07", 1).worth(0, false), 7);
        due.same("three digits", fine("court slips 0;word a worth 007", 1).worth(0, false), 7);
        due.same("three digits, the most", fine("court slips 0;word a worth 099", 1).worth(0, false), 99);
        due.same("three naughts", fine("court slips 000;word a worth 000", 1).worth(0, false), 0);
        due.same("the last digit", fine("court slips 0;word a worth 90", 1).worth(0, false), 90);
        fault(1, "court slips 0;word a worth |0007");
        fault(1, "court slips |0000;word a worth 7");
        fault(1, "court slips 0;word a worth |1000");
        fault(1, "court slips 0;word a worth |99999999999999999999");
        fault(1, "court slips 0;word a worth |4294967297");
        fault(1, FIVE + ";chance k a |0001");
        fault(1, FIVE + ";unsure a |0001");
        fault(1, FIVE + ";said |0001");
        fault(1, FIVE + ";|1000");
        for (char sign : new char[] {'/', ':', '+', '-', '.'}) {
            fault(1, "court slips 0;word a worth |" + sign + "7");
            fault(1, "court slips 0;word a worth 7|" + sign);
        }
    }

    /** "single ones of ;,": LINES and PARTS are never empty. */
    private void singleOnes() {
        fault(1, "|;court slips 0;word a worth 7");
        fault(1, "|,");
        fault(1, "court slips 0;|;word a worth 7");
        fault(1, "court slips 0;word a worth 7;|");
        fault(1, "court slips 0;word a worth 7 ;  |");
        fault(1, "court slips 0|, word a worth 7");
        fault(1, "court slips 0;word a worth 7|,8");
        fault(1, FIVE + ";king k|,a");
        fault(1, FIVE + ";king k a,|,b");
        fault(1, FIVE + ";king k a,|;throne a");
        fault(1, FIVE + ";king k|;throne a");
        fault(1, FIVE + ";chance k a 1,|;throne a");
        fault(1, FIVE + ";chance k a|;throne a");
        fault(1, FIVE + ";throne|;said 5");
        fault(1, FIVE + ";unsure|;said 5");
        fault(1, FIVE + ";unsure a|;said 5");
        fault(1, FIVE + ";said|;throne a");
        fault(1, "court|;word a worth 7");
        fault(1, "court slips|;word a worth 7");
        fault(1, "court slips 0;word|;word a worth 7");
        fault(1, "court slips 0;word a|;word b worth 7");
        fault(1, "court slips 0;word a worth|;word b worth 7");
    }

    /** "court slips WHOLE (0 .. 100 in a hundred), ahead of all others". */
    private void slips() {
        for (int slips : new int[] {0, 1, 99, 100}) {
            due.same("size(0)", fine("court slips " + slips + ";word a worth 7", 1).size(0), slips);
        }
        fault(4, "court slips |101;word a worth 7");
        fault(4, "court slips |999;word a worth 7");
        for (String line : new String[] {"word a worth 7", "king k a", "queen k a", "chance k a 1", "throne a", "unsure a 1",
                "said 5"}) {
            fault(6, "|" + line);
            fault(6, "  |" + line + ";court slips 0");
        }
        for (String first : RESERVED) {
            if (!first.equals("court")) {
                fault(6, "|" + first);
                fault(6, "|" + first + "?");
            }
        }
        fault(3, "court slips 0;|court slips 0;word a worth 7");
        fault(3, "court slips 0;word a worth 7;|court slips 0");
        fault(3, FIVE + ";|court");
        fault(3, FIVE + ";|court?");
    }

    /** "word NAME worth WHOLE (0 .. 99; up to 10)". */
    private void words() {
        for (int worth : new int[] {0, 1, 98, 99}) {
            due.same("worth(0)", fine("court slips 0;word a worth " + worth, 1).worth(0, false), worth);
        }
        fault(4, "court slips 0;word a worth |100");
        fault(4, "court slips 0;word a worth |999");
        KingHears ten = fine(Courts.TEN_WORDS, 10);
        due.same("size(2) of ten words", ten.size(2), 10);
        due.same("the tenth word", ten.worth(9, false), 99);
        fault(5, Courts.TEN_WORDS + ";|word k worth 10");
        fault(5, Courts.TEN_WORDS + ";|word");
        fault(5, Courts.TEN_WORDS + ";|word?");
        fault(5, Courts.TEN_WORDS + ";|word a worth 100");
        fine(Courts.TEN_WORDS + ";king k j", 11);
        fault(5, Courts.TEN_WORDS + ";king k j;|word l worth 10");
        due.same("a COURT of one word", fine(Courts.ONE, 1).size(2), 1);
    }

    /** "its PARTS, told ahead, unlike, up to 4". */
    private void parts() {
        for (String sort : new String[] {"king", "queen"}) {
            String line = FIVE + ";" + sort + " k ";
            due.same("one PART", fine(line + "a", 6).node(5, 1), 1);
            KingHears four = fine(line + "d, c, b, a", 6);
            due.same("four PARTS", four.node(5, 1), 4);
            due.same("the fourth PART", four.part(5, 3), 0);
            fault(5, line + "a, b, c, d, |e");
            fault(5, line + "a, b, c, d, |e, f");
            fault(1, line + "a, b, c, d,|");
            fault(1, line + "a, b, c, d, |7");
            fault(1, line + "a, b, c, d, |said");
            fault(2, line + "a, b, c, d, |f");
            fault(2, line + "a, b, c, d, |k");
            fault(3, line + "a, b, c, d, |d");
            fault(2, line + "|k");
            fault(2, line + "a, |f");
            fault(2, line + "|f;word f worth 5");
            fault(3, line + "a, |a");
            fault(3, line + "a, b, c, |a");
            fault(3, line + "a, b, c, |c");
        }
        due.same("four PARTS of chance", fine(FIVE + ";chance k d 1, c 2, b 3, a 4", 6).weight(5, 0), 4);
        fault(5, FIVE + ";chance k a 1, b 1, c 1, d 1, |e 1");
        fault(5, FIVE + ";chance k a 1, b 1, c 1, d 1, |e 0");
        fault(2, FIVE + ";chance k a 1, b 1, c 1, d 1, |f 1");
        fault(3, FIVE + ";chance k a 1, b 1, c 1, d 1, |a 1");
        fault(3, FIVE + ";chance k a 1, |a 2");
        fault(2, FIVE + ";chance k |k 1");
        fine(FIVE + ";king k a;queen l a, k;chance m a 1, k 1, l 1", 8);
    }

    /** "weights 1 .. 9". */
    private void weights() {
        for (int weight : new int[] {1, 2, 8, 9}) {
            due.same("weight(5, 0)", fine(FIVE + ";chance k a " + weight + ", b 5", 6).weight(5, 0), weight);
            due.same("weight(5, 1)", fine(FIVE + ";chance k a 5, b " + weight, 6).weight(5, 1), weight);
        }
        due.same("weight(5, 0), 009", fine(FIVE + ";chance k a 009", 6).weight(5, 0), 9);
        for (String weight : new String[] {"0", "000", "10", "99", "100", "999"}) {
            fault(4, FIVE + ";chance k a |" + weight);
            fault(4, FIVE + ";chance k a 1, b |" + weight + ", c 1");
        }
        fault(1, FIVE + ";chance k a|");
        fault(1, FIVE + ";chance k a |b");
        fault(1, FIVE + ";chance k a|, b 1");
        fault(1, FIVE + ";chance k a 1, b|");
        fault(1, FIVE + ";king k a |1");
        fault(1, FIVE + ";queen k a, b |1");
    }

    /** "up to 8 of all three; of chance up to 2". */
    private void counsels() {
        for (String sort : new String[] {"king", "queen"}) {
            StringBuilder text = new StringBuilder(FIVE);
            for (char name = 'p'; name < 'x'; name++) {
                text.append(';').append(sort).append(' ').append(name).append(" a");
            }
            fine(text.toString(), 13);
            for (String ninth : new String[] {"|king x a", "|queen x a", "|chance x a 1", "|king", "|queen?", "|chance a"}) {
                fault(5, text + ";" + ninth);
            }
            fine(text + ";word x worth 5", 14);
        }
        String two = FIVE + ";chance k a 1;chance l b 1";
        fine(two, 7);
        fault(5, two + ";|chance m a 1");
        fault(5, two + ";|chance");
        fine(two + ";king m a;queen n a;king o a;king p a;king q a;king r a", 13);
        fault(5, two + ";king m a;queen n a;king o a;king p a;king q a;king r a;|king s a");
        fault(5, two + ";king m a;queen n a;king o a;king p a;king q a;king r a;|chance s a 1");
        fine(FIVE + ";king m a;queen n a;king o a;king p a;king q a;king r a;chance k a 1;chance l a 1", 13);
        fault(5, FIVE + ";king m a;queen n a;king o a;king p a;king q a;king r a;king s a;chance k a 1;|chance l a 1");
    }

    /** "throne NODE (once)". */
    private void throne() {
        due.same("the first NODE", fine(FIVE + ";throne a", 5).throne(), 0);
        due.same("the last NODE", fine(FIVE + ";throne e", 5).throne(), 4);
        due.same("told ahead of NODES", fine("court slips 0;word a worth 5;throne a;word b worth 6", 2).throne(), 0);
        due.same("else the last one told", fine(FIVE, 5).throne(), 4);
        due.same("a counsel that is the last one", fine(FIVE + ";king k a", 6).throne(), 5);
        due.same("a word behind it", fine(FIVE + ";king k a;word z worth 6;said 7;unsure a 5", 7).throne(), 6);
        fault(3, FIVE + ";throne a;|throne a");
        fault(3, FIVE + ";throne a;|throne b");
        fault(3, FIVE + ";throne a;|throne");
        fault(3, FIVE + ";throne e;said 5;|throne?");
        fault(2, FIVE + ";throne |f");
        fault(2, "court slips 0;throne |a;word a worth 5");
        fault(1, FIVE + ";throne |5");
        fault(1, FIVE + ";throne a |b");
    }

    /** "unsure NODE WHOLE (0 .. 99; once each; up to 4)". */
    private void unsureOnes() {
        for (int worth : new int[] {0, 1, 98, 99}) {
            KingHears x = fine("court slips 100;word a worth 50;unsure a " + worth, 1);
            due.same("the other WHOLE", x.mean(false), worth);
        }
        due.same("what was told once more", fine(FIVE + ";unsure a 0", 5).size(3), 1);
        fault(4, FIVE + ";unsure a |100");
        fault(4, FIVE + ";unsure a |999");
        String four = FIVE + ";unsure e 1;unsure d 1;unsure c 1;unsure b 1";
        due.same("four unsure words", fine(four, 5).size(3), 4);
        fault(5, four + ";|unsure a 1");
        fault(5, four + ";|unsure");
        fault(5, four + ";|unsure?");
        fault(5, four + ";|unsure e 1");
        fault(5, four + ";|unsure zz 1");
        fault(3, FIVE + ";unsure a 1;unsure |a 1");
        fault(3, FIVE + ";unsure a 1;unsure b 1;unsure c 1;unsure |a 2");
        fault(3, FIVE + ";unsure a 1;unsure |a 100");
        fault(2, FIVE + ";unsure |f 1");
        fault(2, FIVE + ";king k a;unsure |k 1");
        fault(2, FIVE + ";queen k a;unsure |k 100");
        fault(2, FIVE + ";chance k a 1;unsure |k 1");
        fault(1, FIVE + ";unsure a|");
        fault(1, FIVE + ";unsure a 1 |2");
    }

    /** "said WHOLE (0 .. 99; once)". */
    private void said() {
        for (int worth : new int[] {0, 99}) {
            KingHears x = fine("court slips 0;word a worth " + worth + ";said " + worth, 1);
            due.same("size(4)", x.size(4), 1);
            due.same("fits()", x.fits(), 1);
            due.same("fits() of another", fine("court slips 0;word a worth 50;said " + worth, 1).fits(), 0);
        }
        fault(4, FIVE + ";said |100");
        fault(4, FIVE + ";said |999");
        fault(3, FIVE + ";said 0;|said 0");
        fault(3, FIVE + ";said 5;|said");
        fault(3, FIVE + ";said 5;throne a;|said 100");
        fault(1, FIVE + ";said|");
        fault(1, FIVE + ";said |a");
        fine("court slips 0;said 5;word a worth 5", 1);
    }

    /** "NAMES are WORDS but ..; each told once, ahead of its use". */
    private void names() {
        for (String key : RESERVED) {
            fault(1, "court slips 0;word |" + key + " worth 7");
            for (String sort : new String[] {"king", "queen", "chance"}) {
                fault(1, FIVE + ";" + sort + " |" + key + " a");
                fault(1, FIVE + ";" + sort + " k |" + key);
            }
            fault(1, FIVE + ";throne |" + key);
            fault(1, FIVE + ";unsure |" + key + " 5");
            fine("court slips 0;word " + key + "s worth 7", 1);
        }
        fine("court slips 0;word slips worth 7;word worth worth 8;king k slips, worth;throne worth", 3);
        for (String sort : new String[] {"king", "queen", "chance"}) {
            fault(3, FIVE + ";" + sort + " |a b");
            fault(3, FIVE + ";king k a;" + sort + " |k a");
            fault(3, FIVE + ";king k a;" + sort + " |e?");
        }
        fault(3, FIVE + ";word |e worth 5");
        fault(3, FIVE + ";king k a;word |k worth 100");
        fine("court slips 0;word a worth 1;word aa worth 2;word aaaaaaa worth 3;word aaaaaaaa worth 4", 4);
        fault(3, "court slips 0;word aaaaaaaa worth 3;word |aaaaaaaa worth 4");
        fault(2, "court slips 0;word aaaaaaaa worth 3;throne |aaaaaaa");
    }

    /** "each told once": NAMES that are nearly alike are several NAMES. */
    private void namesNearlyAlike() {
        String[] names = {"a", "aa", "b", "bb", "ab", "ba", "z", "zz", "az", "za", "aab", "aba", "baa", "abc", "acb", "bac",
            "bca", "cab", "cba", "c", "d", "ac", "bd", "aaaaaaaa", "aaaaaaab", "baaaaaaa", "abaaaaaa", "zzzzzzzz"};
        for (String name : names) {
            for (String other : names) {
                String text = "court slips 0;word " + name + " worth 1;word |" + other + " worth 2";
                if (name.equals(other)) {
                    fault(3, text);
                } else {
                    fine(text.replace("|", ""), 2);
                }
            }
        }
    }

    /** "NODES are numbered as told, all of them". */
    private void numbering() {
        KingHears x = fine("court slips 0;word a worth 5;king k a;word b worth 6;queen l k, b;chance m l 2, a 3;"
            + "word c worth 7;throne l;unsure c 1", 6);
        int[] kinds = {0, 1, 0, 2, 3, 0};
        for (int k = 0; k < 6; k++) {
            due.same("node(" + k + ", 0)", x.node(k, 0), kinds[k]);
        }
        due.same("words() of it", x.size(2), 3);
        due.same("throne() of it", x.throne(), 3);
        due.same("part(4, 0)", x.part(4, 0), 3);
        due.same("words below m", x.node(4, 3), 5);
    }

    /** "(the end: its place)"; "at the end: no word". */
    private void theEnd() {
        fault(1, "|");
        fault(1, " |");
        fault(1, "court |");
        fault(1, "court slips   |");
        fault(6, "court slips 0|");
        fault(6, "court slips 0 |");
        fault(6, "court slips 100;said 5   |");
        fault(1, "court slips 0;|");
        fault(1, FIVE + ";king k a ,  |");
        fault(4, "court slips |101");
        fault(2, "court slips 0;throne |a");
        KingHears x = new KingHears();
        Due.feed(x, "court slips 0;word a worth 7");
        due.same("only the first 13 bytes", x.court(13), -1);
        due.same("fault() of them", x.fault(), 6);
        due.same("where() of them", x.where(), 13);
        Due.feed(x, "court slips 0;word a worth 77");
        due.same("a TOKEN that is cut off", x.court(28), 1);
        due.same("its worth", x.worth(0, false), 7);
        Due.feed(x, "court slips 0;word a worth 77");
        due.same("another one", x.court(25), -1);
        due.same("fault() of it", x.fault(), 1);
        due.same("where() of it", x.where(), 21);
    }

    /** "of one place the least number". */
    private void leastNumberOfOnePlace() {
        fault(1, FIVE + ";king k a, b, c, d, |abcdefghi");
        fault(2, FIVE + ";king k a, b, c, d, |f");
        fault(3, FIVE + ";king k a, b, c, d, |c");
        fault(3, FIVE + ";unsure a 1;unsure |a 100");
        fault(1, FIVE + ";said |1000");
        fault(1, "court slips |1010");
        fault(1, "court slips 0;|");
    }

    /** "the first that is met from the left". */
    private void firstFromTheLeft() {
        fault(4, "court slips |101;court slips 0");
        fault(3, "court slips 0;|court slips 101");
        fault(6, "|word a worth 100;court slips 101");
        fault(3, FIVE + ";king |a zz, a, a ?");
        fault(2, FIVE + ";king k |zz, a, a ?");
        fault(3, FIVE + ";king k a, |a, zz ?");
        fault(1, FIVE + ";king k a |? zz, a");
        fault(4, FIVE + ";chance k a |0, a 1, zz 1");
        fault(5, FIVE + ";chance k a 1;chance l a 1;|chance k zz 0");
        fault(5, FIVE + ";king k a, b, c, d, |e, a, zz");
        fault(4, FIVE + ";unsure a |100;unsure a 100");
        fault(2, FIVE + ";throne |zz;throne a");
        fault(2, "court slips 0;throne |zz");
    }

    private void allAtOnce() {
        KingHears x = fine(blanksTo(900, Courts.FULL), 18);
        int[] sizes = {100, 18, 10, 4, 1, 0, 0, 0};
        for (int what = 0; what < 8; what++) {
            due.same("size(" + what + ") of FULL", x.size(what), sizes[what]);
        }
        due.same("throne() of FULL", x.throne(), 17);
        due.fraction("worth(17) of FULL", x.worth(17, false), x.worth(17, true), 99, 1);
        fault(5, Courts.FULL + ";|word z worth 1");
        fault(5, Courts.FULL + ";|king z ka");
        fault(5, Courts.FULL + ";|chance z ka 1");
        fault(5, Courts.FULL + ";|unsure wordcccc 1");
        fault(3, Courts.FULL + ";|throne ka");
        fault(3, Courts.FULL + ";|said 1");
        fault(3, Courts.FULL + ";|court slips 1");
    }
}
