import java.util.Random;

/** FAULTS: those that the document names, one by one, and spoiled texts by chance against the oracle's reading. */
public final class FaultsTest {
    private static final String WORDS = "court slips 0;word a worth 0;word b worth 1;word c worth 2;word d worth 3;word e worth 4";
    private static final int SPOILED = 60000;
    /** An object is used for 512 calls: so many texts of 900 bytes, 45 feeds and four calls each, are fewer. */
    private static final int TEXTS_OF_ONE = 10;

    private final TextDue texts = new TextDue();
    private final Due due = texts.due;

    public static void main(String[] args) {
        FaultsTest test = new FaultsTest();
        test.forms();
        test.untold();
        test.toldAgain();
        test.bounds();
        test.many();
        test.lacks();
        test.firstOfSeveral();
        test.fine();
        test.spoiled();
        test.due.end("FaultsTest");
    }

    private void fault(int number, String marked) {
        texts.fault(number, marked);
    }

    private void fine(String text, int nodes) {
        texts.fine(text, nodes);
    }

    private void forms() {
        fault(1, "|");
        fault(1, "   |");
        fault(1, "|;");
        fault(1, "|hello");
        fault(1, "|Court slips 0");
        fault(1, "court slips 0|.");
        fault(1, "court|");
        fault(1, "court |word");
        fault(1, "court slips |x");
        fault(1, "court slips|");
        fault(1, "court slips  |");
        fault(1, "court slips |1000");
        fault(1, "court slips 0|,");
        fault(1, "court slips 0 |1");
        fault(1, "court slips 0;|");
        fault(1, "court slips 0;|;word a worth 1");
        fault(1, "court slips 0;|slips 0");
        fault(1, "court slips 0;|abcdefghi");
        fault(1, "court slips 0;word |abcdefghi worth 1");
        fault(1, "court slips 0;word |7 worth 1");
        fault(1, "court slips 0;word a |word");
        fault(1, "court slips 0;word a |1");
        fault(1, "court slips 0;word a worth |b");
        fault(1, "court slips 0;word a worth |0000");
        fault(1, "court slips 0;word a worth|\t1");
        fault(1, "court slips 0;word a worth 1|\n");
        fault(1, "court slips 0;word a worth 1|\u00e9");
        fault(1, "court slips 0;word a worth 1 |, b");
        for (String key : OracleText.RESERVED) {
            fault(1, "court slips 0;word |" + key + " worth 1");
            fault(1, WORDS + ";king |" + key + " a");
            fault(1, WORDS + ";king k |" + key);
            fault(1, WORDS + ";king k a, |" + key);
            fault(1, WORDS + ";throne |" + key);
            fault(1, WORDS + ";unsure |" + key + " 1");
        }
        fault(1, WORDS + ";king k|");
        fault(1, WORDS + ";king k a,|");
        fault(1, WORDS + ";king k a,|,");
        fault(1, WORDS + ";king k a |1");
        fault(1, WORDS + ";queen k a |b");
        fault(1, WORDS + ";chance k a|");
        fault(1, WORDS + ";chance k a |, b 1");
        fault(1, WORDS + ";chance k a |b");
        fault(1, WORDS + ";chance k a 1 |2");
        fault(1, WORDS + ";throne |1");
        fault(1, WORDS + ";throne a|, b");
        fault(1, WORDS + ";unsure a |b");
        fault(1, WORDS + ";said |a");
        fault(1, WORDS + ";said 5 |5");
    }

    private void untold() {
        fault(2, WORDS + ";king k |f");
        fault(2, WORDS + ";king k a, |k");
        fault(2, WORDS + ";king k |k");
        fault(2, WORDS + ";queen k a, |worth");
        fault(2, WORDS + ";chance k |f 1");
        fault(2, WORDS + ";king k a, b, c, d, |f");
        fault(2, WORDS + ";throne |f");
        fault(2, "court slips 0;throne |a;word a worth 1");
        fault(2, WORDS + ";unsure |f 1");
        fault(2, WORDS + ";king k a;unsure |k 1");
    }

    private void toldAgain() {
        fault(3, WORDS + ";word |a worth 1");
        fault(3, WORDS + ";king |a b");
        fault(3, WORDS + ";king k a;queen |k a");
        fault(3, WORDS + ";king k a, |a");
        fault(3, WORDS + ";chance k a 1, b 1, |a 1");
        fault(3, WORDS + ";king k a, b, c, d, |a");
        fault(3, WORDS + ";unsure a 1;unsure |a 1");
        fault(3, "court slips 0;|court slips 1");
        fault(3, WORDS + ";throne a;|throne b");
        fault(3, WORDS + ";said 1;|said 2");
    }

    private void bounds() {
        fault(4, "court slips |101");
        fault(4, "court slips |999;word a worth 1");
        fault(4, "court slips 0;word a worth |100");
        fault(4, WORDS + ";chance k a |0");
        fault(4, WORDS + ";chance k a 1, b |10");
        fault(4, WORDS + ";unsure a |100");
        fault(4, WORDS + ";said |100");
    }

    private void many() {
        String ten = WORDS + ";word f worth 5;word g worth 6;word h worth 7;word i worth 8;word j worth 9";
        fine(ten, 10);
        fault(5, ten + ";|word k worth 1");
        fault(5, ten + ";|word");
        String eight = ten + ";king ka a;king kb a;queen kc a;queen kd a;chance ke a 1;chance kf a 1;king kg a;king kh a";
        fine(eight, 18);
        fault(5, eight + ";|king ki a");
        fault(5, eight + ";|queen a");
        fault(5, eight + ";|chance ki a 1");
        fault(5, WORDS + ";chance k a 1;chance l a 1;|chance m a 1");
        fault(5, WORDS + ";king k a, b, c, d, |e");
        fault(5, WORDS + ";chance k a 1, b 1, c 1, d 1, |e 1");
        fine(WORDS + ";unsure a 1;unsure b 1;unsure c 1;unsure d 1", 5);
        fault(5, WORDS + ";unsure a 1;unsure b 1;unsure c 1;unsure d 1;|unsure e 1");
        fault(5, WORDS + ";unsure a 1;unsure b 1;unsure c 1;unsure d 1;|unsure");
    }

    private void lacks() {
        fault(6, "|word a worth 1");
        fault(6, "  |word a worth 1;court slips 0");
        fault(6, "|king");
        fault(6, "|said 5;court slips 0;word a worth 1");
        fault(6, "|throne");
        fault(6, "|unsure");
        fault(6, "|chance k");
        fault(6, "court slips 0|");
        fault(6, "court slips 0  |");
        fault(6, "court slips 0;said 5|");
        fault(1, "court slips 0;said 5;|");
    }

    private void firstOfSeveral() {
        fault(4, "court slips |101;word a worth 100");
        fault(2, WORDS + ";king k |f, f, a, a");
        fault(3, WORDS + ";king |a z");
        fault(4, WORDS + ";chance k a |0, a 0");
        fault(1, WORDS + ";king k a |? z");
        fault(2, WORDS + ";king k |z ?");
    }

    private void fine() {
        fine("court slips 0;word a worth 0", 1);
        fine("  court  slips  100 ;  word a worth 99  ", 1);
        fine("court slips007;word abcdefgh worth09", 1);
        fine("court slips0;word worth worth1;word slips worth2;king k worth,slips", 3);
        fine("court slips 0;word a worth 1;word aa worth 2;word ab worth 3;word ba worth 4;word aaaaaaaa worth 5;"
            + "word aaaaaaab worth 6;word baaaaaaa worth 7;word abaaaaaa worth 8;word z worth 9;word zzzzzzzz worth 10", 10);
        fine(WORDS + ";chance k a 9, b 1, c 5, d 2;throne a;said 0;unsure a 0;word z worth 7", 7);
    }

    private void spoiled() {
        Random random = new Random(42);
        Texts byChance = new Texts(random);
        KingHears x = new KingHears();
        int nodesNow = 0;
        int[] met = new int[7];
        for (int i = 0; i < SPOILED && due.wrong() < 20; i++) {
            if (i % TEXTS_OF_ONE == 0) {
                x = new KingHears();
                nodesNow = 0;
            }
            String court = random.nextInt(3) == 0 ? byChance.court(10, 8) : byChance.court(5, 4);
            String text = byChance.spoiled(court);
            if (text.length() <= 900) {
                OracleText read = new OracleText(text);
                nodesNow = read.fault() == 0 ? read.kinds.size() : nodesNow;
                due.same("court of " + text, Due.court(x, text), read.fault() == 0 ? nodesNow : -1);
                due.same("fault() of " + text, x.fault(), read.fault());
                due.same("where() of " + text, x.where(), read.place());
                due.same("size(1) behind " + text, x.size(1), nodesNow);
                met[read.fault()]++;
            }
        }
        for (int number = 0; number <= 6; number++) {
            due.same("whether fault " + number + " is met often", met[number] > 200, true);
        }
    }
}
