/** Texts of courts that several tests use; behind each what is worked out from it by hand. */
final class Courts {
    /** ay 0, bee 1, see 2, dee 3, eff 4, left 5, mid 6, odd 7, top 8; all six breaths are needed; top is worth 50. */
    static final String TOP = "court slips 50;word ay worth 30;word bee worth 70;word see worth 50;"
        + "word dee worth 20;word eff worth 90;queen left ay, bee;queen mid see, dee;chance odd eff 1, ay 2;"
        + "king top left, mid, odd;unsure dee 60;unsure ay 80;said 50";
    /** a 0, b 1, c 2, d 3, far 4, l 5, r 6, top 7; HEARING hears a, b, c and cuts d. */
    static final String CUT = "court slips 10;word a worth 5;word b worth 9;word c worth 3;word d worth 8;"
        + "word far worth 40;queen l a, b;queen r c, d;king top l, r";
    static final String ONE = "court slips 0;word x worth 7";
    /** Every counsel has the four NODES told last: 349 ways down. */
    static final String WIDE = "court slips 0;word a worth 10;word b worth 20;word c worth 30;word d worth 40;"
        + "king e a, b, c, d;king f b, c, d, e;king g c, d, e, f;king h d, e, f, g;king i e, f, g, h;"
        + "king j f, g, h, i;king k g, h, i, j;king l h, i, j, k";
    /** A way of eight steps, the longest there can be. */
    static final String CHAIN = "court slips 0;word a worth 7;king b a;king c b;king d c;king e d;king f e;king g f;"
        + "king h g;king i h";
    /** Ten words, of which the last is worth most. */
    static final String TEN_WORDS = "court slips 0;word a worth 0;word b worth 1;word c worth 2;word d worth 3;"
        + "word e worth 4;word f worth 5;word g worth 6;word h worth 7;word i worth 8;word j worth 99";
    /** As much of each sort as there is room for: 18 NODES, every counsel with four PARTS, four unsure words. */
    static final String FULL = "court slips 100;word wordaaaa worth 99;word wordbbbb worth 99;word wordcccc worth 99;"
        + "word wordddde worth 99;word wordeeee worth 99;word wordffff worth 99;word wordgggg worth 99;"
        + "word wordhhhh worth 99;word wordiiii worth 99;word wordjjjj worth 99;"
        + "king ka wordaaaa,wordbbbb,wordcccc,wordddde;king kb wordeeee,wordffff,wordgggg,wordhhhh;"
        + "king kc wordiiii,wordjjjj,ka,kb;queen qa ka,kb,kc,wordaaaa;queen qb qa,ka,kb,kc;queen qc qb,qa,ka,kb;"
        + "chance ca qc 9,qb 9,qa 9,kc 9;chance cb ca 9,qc 9,qb 9,qa 9;throne cb;"
        + "unsure wordaaaa 0;unsure wordbbbb 0;unsure wordiiii 0;unsure wordjjjj 99;said 99";

    private Courts() {
    }
}
