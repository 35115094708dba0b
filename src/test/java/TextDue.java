/** Whether texts are read as is due. */
final class TextDue {
    final Due due = new Due();

    /** The place is marked in the text by a bar, which is taken out. */
    void fault(int number, String marked) {
        int place = marked.indexOf('|');
        String text = marked.replace("|", "");
        KingHears x = new KingHears();
        due.same("court of " + text, Due.court(x, text), -1);
        due.same("trouble() of " + text, x.trouble(), 4);
        due.same("fault() of " + text, x.fault(), number);
        due.same("where() of " + text, x.where(), place);
        due.same("size(1) behind " + text, x.size(1), 0);
        OracleText read = new OracleText(text);
        due.same("the oracle's fault of " + text, read.fault(), number);
        due.same("the oracle's place of " + text, read.place(), place);
    }

    /** Answers the object, which has the court. */
    KingHears fine(String text, int nodes) {
        KingHears x = new KingHears();
        due.same("court of " + text, Due.court(x, text), nodes);
        due.same("trouble() of " + text, x.trouble(), 0);
        due.same("fault() of " + text, x.fault(), 0);
        due.same("where() of " + text, x.where(), -1);
        due.same("size(1) behind " + text, x.size(1), nodes);
        return x;
    }
}
