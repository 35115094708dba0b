import java.util.NoSuchElementException;

/** A court of words and counsels, and how little of it the king must hear. */
public final class KingHears {
    public static final int NONE = -1;

    private static final int NEVER = -2;
    private static final long NO_WORTH = -1L;
    private static final int NO_SHARE = -100;

    private static final int WORD = 0;
    private static final int KING = 1;
    private static final int QUEEN = 2;
    private static final int CHANCE = 3;

    private static final int TAPE_ROOM = 900;
    private static final int FEED_BYTES = 20;
    private static final int WORD_ROOM = 10;
    private static final int RULER_ROOM = 8;
    private static final int CHANCE_ROOM = 2;
    private static final int NODE_ROOM = 18;
    private static final int PART_ROOM = 4;
    private static final int UNSURE_ROOM = 4;
    private static final int UNDO_ROOM = 16;
    private static final int IMAGE_ROOM = 3;
    /** No HEARING comes to more than 349 words or cuts more than 464 PARTS: eight counsels of four PARTS. */
    private static final int LIST_ROOM = 512;
    /** The longest way has eight counsels and a word. */
    private static final int DEPTH_ROOM = 12;

    private static final int MOST_WORTH = 99;
    private static final int MOST_SLIPS = 100;
    private static final int MOST_WEIGHT = 9;
    private static final int MOST_PROOF = 100;
    private static final int MOST_ENVY = 9;
    private static final int MOST_NIGHT = 9;
    private static final int MOST_DRAWN = 60;
    private static final int NIGHT_WORTH = 50;
    private static final int SEED_MODULUS = 65537;

    private static final int NO_SUCH = 1;
    private static final int NUMBER = 2;
    private static final int NO_ROOM = 3;
    private static final int FAULTY = 4;
    private static final int NOT_SO = 5;
    private static final int NOTHING = 6;

    private static final int SORT_PROOF = 0;
    private static final int SORT_DISPROOF = 1;
    private static final int SORT_SURE = 2;

    private final Reader reader = new Reader();
    private Court told = new Court();
    private final Stand now = new Stand();
    private final Stand trial = new Stand();
    private final Stand[] images = new Stand[IMAGE_ROOM];
    private int imageCount;
    private final Acts acts = new Acts();
    private final Hearing hearing = new Hearing();
    private final Scale scale = new Scale();
    private int refusal;
    private int latestFault;
    private int latestPlace;

    public KingHears() {
        for (int i = 0; i < IMAGE_ROOM; i++) {
            images[i] = new Stand();
        }
    }

    // ---- the court

    public int feed(int a, int b, int c, int d, int e) {
        if (reader.tapeSize > TAPE_ROOM - FEED_BYTES) {
            return NONE;
        }
        reader.putBytes(a);
        reader.putBytes(b);
        reader.putBytes(c);
        reader.putBytes(d);
        reader.putBytes(e);
        return reader.tapeSize;
    }

    public int court(int n) {
        if (n < 0 || n > reader.tapeSize) {
            return refuse(NUMBER);
        }
        boolean fine = reader.reads(n);
        latestFault = reader.faultNumber;
        latestPlace = reader.faultPlace;
        if (!fine) {
            return refuse(FAULTY);
        }
        told = reader.exchanged(told);
        now.standAsTold(told);
        acts.forget();
        imageCount = 0;
        refusal = 0;
        return told.nodes;
    }

    public int fault() {
        return latestFault;
    }

    public int where() {
        return refusal == FAULTY ? latestPlace : NONE;
    }

    // ---- now

    public int node(int k, int what) {
        if (lacksNode(k)) {
            return NONE;
        }
        switch (what) {
            case 0:
                return told.kind[k];
            case 1:
                return told.parts[k];
            case 2:
                return told.steps[k];
            case 3:
                return told.below[k];
            case 4:
                return told.above[k];
            default:
                return refuse(NO_SUCH);
        }
    }

    public int part(int k, int i) {
        return lacksPart(k, i) ? NONE : now.partAt(told, k, i);
    }

    public int weight(int k, int part) {
        if (lacksNode(k)) {
            return NONE;
        }
        int i = told.placeOfPart(k, part);
        if (told.kind[k] != CHANCE || i < 0) {
            return refuse(NO_SUCH);
        }
        return told.weights[k * PART_ROOM + i];
    }

    public int throne() {
        return lacksCourt() ? NONE : told.throneNode;
    }

    public long worth(int k, boolean lower) {
        if (lacksNode(k)) {
            return NO_WORTH;
        }
        scale.weighAll(told, now.worths);
        return inLowestTerms(scale.values[k], told.unit, lower);
    }

    public int best(int k) {
        if (lacksNode(k)) {
            return NONE;
        }
        scale.weighAll(told, now.worths);
        return bestPart(k);
    }

    /** Asks that the scale has just weighed all. */
    private int bestPart(int k) {
        if (told.kind[k] == WORD || told.kind[k] == CHANCE) {
            return NEVER;
        }
        for (int i = 0; i < told.parts[k]; i++) {
            int part = now.partAt(told, k, i);
            if (scale.values[part] == scale.values[k]) {
                return part;
            }
        }
        return NEVER;
    }

    public int line() {
        return lacksCourt() ? NONE : lineLength();
    }

    private int lineLength() {
        scale.weighAll(told, now.worths);
        int length = 1;
        int at = bestPart(told.throneNode);
        for (int i = 0; i < NODE_ROOM && at >= 0; i++) {
            length++;
            at = bestPart(at);
        }
        return length;
    }

    public int lineAt(int i) {
        if (lacksCourt()) {
            return NONE;
        }
        if (i < 0 || i >= lineLength()) {
            return refuse(NO_SUCH);
        }
        int at = told.throneNode;
        for (int step = 0; step < i && at >= 0; step++) {
            at = bestPart(at);
        }
        return at;
    }

    // ---- hearing

    public int whole() {
        return lacksCourt() ? NONE : scale.waysDown(told);
    }

    public int hears() {
        return lacksCourt() ? NONE : hearing.breathsFreely(told, now);
    }

    public int heardAt(int i) {
        if (lacksCourt()) {
            return NONE;
        }
        if (i < 0 || i >= hearing.breathsFreely(told, now)) {
            return refuse(NO_SUCH);
        }
        return hearing.wordAt(i);
    }

    public int heard() {
        if (lacksCourt()) {
            return NONE;
        }
        hearing.breathsFreely(told, now);
        return hearing.heardBits;
    }

    public int cuts() {
        if (lacksCourt()) {
            return NONE;
        }
        hearing.breathsFreely(told, now);
        return hearing.cutCount;
    }

    public int cutAt(int i) {
        if (lacksCourt()) {
            return NONE;
        }
        hearing.breathsFreely(told, now);
        if (i < 0 || i >= hearing.cutCount) {
            return refuse(NO_SUCH);
        }
        return hearing.cutPartAt(i);
    }

    public int hearsIn(int low, int high) {
        if (lacksBounds(low, high)) {
            return NONE;
        }
        hearing.hearWithin(told, now, low, high);
        return hearing.breaths;
    }

    public long handed(int low, int high, boolean lower) {
        if (lacksBounds(low, high)) {
            return NO_WORTH;
        }
        return inLowestTerms(hearing.hearWithin(told, now, low, high), told.unit, lower);
    }

    private boolean lacksBounds(int low, int high) {
        if (lacksCourt()) {
            return true;
        }
        if (low < 0 || high > MOST_WORTH || low >= high) {
            refusal = NUMBER;
        }
        return refusal != 0;
    }

    // ---- narrow questions

    public int asks(int much) {
        if (lacksNumber(much, 0, MOST_WORTH)) {
            return NONE;
        }
        return hearing.asked(told, now, much) ? 1 : 0;
    }

    public int askBreaths(int much) {
        if (lacksNumber(much, 0, MOST_WORTH)) {
            return NONE;
        }
        hearing.asked(told, now, much);
        return hearing.breaths;
    }

    public int halves() {
        if (lacksCourt()) {
            return NONE;
        }
        hearing.askByHalves(told, now);
        return hearing.halfBreaths;
    }

    public int questions() {
        if (lacksCourt()) {
            return NONE;
        }
        hearing.askByHalves(told, now);
        return hearing.halfQuestions;
    }

    // ---- proofs

    public int proof(int much) {
        return lacksNumber(much, 0, MOST_PROOF) ? NONE : fewestWords(SORT_PROOF, much);
    }

    public int disproof(int much) {
        return lacksNumber(much, 0, MOST_PROOF) ? NONE : fewestWords(SORT_DISPROOF, much);
    }

    public int sure() {
        return lacksCourt() ? NONE : fewestWords(SORT_SURE, 0);
    }

    /** By sizes, then by bits upwards, so that the first set that shows it is the one asked for. */
    private int fewestWords(int sort, int much) {
        int all = told.below[told.throneNode];
        if (!shows(all, sort, much)) {
            return NEVER;
        }
        int words = Integer.bitCount(all);
        int sets = 1 << words;
        for (int size = 0; size < words; size++) {
            int set = 0;
            for (int i = 0; i < sets; i++) {
                if (Integer.bitCount(set) == size && shows(set, sort, much)) {
                    return set;
                }
                set = (set - all) & all;
            }
        }
        return all;
    }

    /** More of a part is never less of the whole: so the others at 0 and at 99 tell of all between. */
    private boolean shows(int set, int sort, int much) {
        if (sort == SORT_PROOF) {
            return scale.throneBySet(told, now, set, 0) >= much * told.unit;
        }
        int atMost = scale.throneBySet(told, now, set, MOST_WORTH);
        if (sort == SORT_DISPROOF) {
            return atMost < much * told.unit;
        }
        return atMost == scale.throneBySet(told, now, set, 0);
    }

    // ---- orders

    public int first(int k) {
        if (lacksNode(k)) {
            return NONE;
        }
        int i = placeOfFirst(k);
        return i < 0 ? NEVER : now.partAt(told, k, i);
    }

    public int firstBreaths(int k) {
        if (lacksNode(k)) {
            return NONE;
        }
        int i = placeOfFirst(k);
        return i < 0 ? NEVER : breathsWithFirst(k, i);
    }

    private int placeOfFirst(int k) {
        int bestPlace = NONE;
        int fewest = 0;
        for (int i = 0; i < told.parts[k]; i++) {
            int breaths = breathsWithFirst(k, i);
            if (bestPlace < 0 || breaths < fewest) {
                bestPlace = i;
                fewest = breaths;
            }
        }
        return bestPlace;
    }

    private int breathsWithFirst(int k, int i) {
        trial.copyFrom(now);
        trial.bringFirst(k, i);
        return hearing.breathsFreely(told, trial);
    }

    public long orderMean(int k, boolean lower) {
        if (lacksNode(k)) {
            return NO_WORTH;
        }
        int orders = ordersOf(k);
        long sum = 0;
        for (int code = 0; code < orders; code++) {
            sum += breathsInOrder(k, code);
        }
        return inLowestTerms(sum, orders, lower);
    }

    public int orderLeast(int k) {
        if (lacksNode(k)) {
            return NONE;
        }
        int orders = ordersOf(k);
        int fewest = breathsInOrder(k, 0);
        for (int code = 1; code < orders; code++) {
            fewest = Math.min(fewest, breathsInOrder(k, code));
        }
        return fewest;
    }

    private int ordersOf(int k) {
        int orders = 1;
        for (int i = 2; i <= told.parts[k]; i++) {
            orders *= i;
        }
        return orders;
    }

    private int breathsInOrder(int k, int code) {
        trial.copyFrom(now);
        trial.putInOrder(k, told.parts[k], code);
        return hearing.breathsFreely(told, trial);
    }

    // ---- nights, turns

    public long night(int d, boolean lower) {
        if (lacksNumber(d, 0, MOST_NIGHT)) {
            return NO_WORTH;
        }
        scale.weighNightNone(told, now.worths);
        for (int i = 0; i < d; i++) {
            scale.weighNextNight(told);
        }
        return inLowestTerms(scale.values[told.throneNode], told.unit, lower);
    }

    public int settles() {
        if (lacksCourt()) {
            return NONE;
        }
        int worthNow = scale.weighAll(told, now.worths);
        int settled = 0;
        scale.weighNightNone(told, now.worths);
        for (int d = 0; d <= MOST_NIGHT; d++) {
            if (scale.values[told.throneNode] != worthNow) {
                settled = d + 1;
            }
            scale.weighNextNight(told);
        }
        return settled;
    }

    public int turn(int k) {
        if (lacksWord(k)) {
            return NONE;
        }
        return leastTurn(k);
    }

    public int pivot() {
        if (lacksCourt()) {
            return NONE;
        }
        int word = NEVER;
        int least = 0;
        for (int k = 0; k < told.nodes; k++) {
            int change = told.kind[k] == WORD ? leastTurn(k) : NEVER;
            if (change >= 0 && (word < 0 || change < least)) {
                word = k;
                least = change;
            }
        }
        return word;
    }

    private int leastTurn(int k) {
        int worthNow = scale.weighAll(told, now.worths);
        int up = leastTurnTowards(k, 1, MOST_WORTH - now.worths[k], worthNow);
        int down = leastTurnTowards(k, -1, now.worths[k], worthNow);
        if (up < 0 || down < 0) {
            return Math.max(up, down);
        }
        return Math.min(up, down);
    }

    /** What has turned stays turned farther that way, so halving finds the least change. */
    private int leastTurnTowards(int k, int way, int room, int worthNow) {
        if (scale.throneByWord(told, now, k, now.worths[k] + way * room) == worthNow) {
            return NEVER;
        }
        int low = 1;
        int high = room;
        for (int i = 0; i < MOST_WORTH && low < high; i++) {
            int middle = (low + high) / 2;
            if (scale.throneByWord(told, now, k, now.worths[k] + way * middle) == worthNow) {
                low = middle + 1;
            } else {
                high = middle;
            }
        }
        return high;
    }

    // ---- unsure words

    public int fits() {
        return lacksCourt() ? NONE : Integer.bitCount(fittingSets());
    }

    public int fitAt(int i) {
        if (lacksCourt()) {
            return NONE;
        }
        int fitting = fittingSets();
        int seen = 0;
        for (int set = 0; set < told.unsureSets(); set++) {
            if ((fitting >> set & 1) == 1) {
                if (seen == i) {
                    return set;
                }
                seen++;
            }
        }
        return refuse(NO_SUCH);
    }

    public int could() {
        if (lacksCourt()) {
            return NONE;
        }
        int fitting = fittingSets();
        int some = 0;
        for (int set = 0; set < told.unsureSets(); set++) {
            if ((fitting >> set & 1) == 1) {
                some |= set;
            }
        }
        return some;
    }

    public int surely() {
        if (lacksCourt()) {
            return NONE;
        }
        int fitting = fittingSets();
        int all = fitting == 0 ? 0 : told.unsureSets() - 1;
        for (int set = 0; set < told.unsureSets(); set++) {
            if ((fitting >> set & 1) == 1) {
                all &= set;
            }
        }
        return all;
    }

    public int ask() {
        if (lacksCourt()) {
            return NONE;
        }
        int fitting = fittingSets();
        int j = unsureToAsk(fitting);
        return j < 0 ? NEVER : told.unsureWords[j];
    }

    public int askLeaves() {
        if (lacksCourt()) {
            return NONE;
        }
        int fitting = fittingSets();
        int j = unsureToAsk(fitting);
        return j < 0 ? NEVER : leftAtMost(fitting, j);
    }

    /** The sets that fit, one bit each: the bit's number is the set. */
    private int fittingSets() {
        int fitting = 0;
        for (int set = 0; set < told.unsureSets(); set++) {
            int worth = scale.throneByUnsure(told, told.toldWorths, set);
            if (told.saidWorth < 0 || wholeOf(worth, told.unit) == told.saidWorth) {
                fitting |= 1 << set;
            }
        }
        return fitting;
    }

    private int unsureToAsk(int fitting) {
        int chosen = NONE;
        int fewest = 0;
        for (int j = 0; fitting != 0 && j < told.unsures; j++) {
            int left = leftAtMost(fitting, j);
            if (chosen < 0 || left < fewest) {
                chosen = j;
                fewest = left;
            }
        }
        return chosen;
    }

    private int leftAtMost(int fitting, int j) {
        int with = 0;
        for (int set = 0; set < told.unsureSets(); set++) {
            if ((fitting >> set & 1) == 1 && (set >> j & 1) == 1) {
                with++;
            }
        }
        return Math.max(with, Integer.bitCount(fitting) - with);
    }

    public long odds(int much, boolean lower) {
        if (lacksNumber(much, 0, MOST_WORTH)) {
            return NO_WORTH;
        }
        long likely = 0;
        for (int set = 0; set < told.unsureSets(); set++) {
            if (scale.throneByUnsure(told, now.worths, set) >= much * told.unit) {
                likely += told.likelihood(set);
            }
        }
        return inLowestTerms(likely, told.allLikelihood(), lower);
    }

    public long mean(boolean lower) {
        if (lacksCourt()) {
            return NO_WORTH;
        }
        long sum = 0;
        for (int set = 0; set < told.unsureSets(); set++) {
            sum += told.likelihood(set) * scale.throneByUnsure(told, now.worths, set);
        }
        return inLowestTerms(sum, told.allLikelihood() * told.unit, lower);
    }

    // ---- a fool, a minister

    public int speaks(int envy, boolean fool, boolean minister, boolean ofOther) {
        if (lacksNumber(envy, 0, MOST_ENVY)) {
            return NO_SHARE;
        }
        return ofOther ? shareOf(envy, minister, fool) : shareOf(envy, fool, minister);
    }

    public int rests(int envy) {
        if (lacksNumber(envy, 0, MOST_ENVY)) {
            return NONE;
        }
        int count = 0;
        for (int pair = 0; pair < 4; pair++) {
            if (isRest(envy, (pair & 2) != 0, (pair & 1) != 0)) {
                count++;
            }
        }
        return count;
    }

    public int rest(int envy) {
        if (lacksNumber(envy, 0, MOST_ENVY)) {
            return NONE;
        }
        for (int pair = 0; pair < 4; pair++) {
            if (isRest(envy, (pair & 2) != 0, (pair & 1) != 0)) {
                return (pair >> 1) * 10 + (pair & 1);
            }
        }
        return NEVER;
    }

    private static int shareOf(int envy, boolean he, boolean otherOne) {
        if (he) {
            return otherOne ? 2 - envy : 5;
        }
        return otherOne ? -envy : 1;
    }

    private static boolean isRest(int envy, boolean fool, boolean minister) {
        return shareOf(envy, fool, minister) >= shareOf(envy, !fool, minister)
            && shareOf(envy, minister, fool) >= shareOf(envy, !minister, fool);
    }

    // ---- orders by draws

    public int drawn(int seed, int n) {
        if (lacksDraws(seed, n)) {
            return NONE;
        }
        trial.copyFrom(now);
        int at = seed;
        for (int i = 0; i < n; i++) {
            at = drawOrders(at);
        }
        return hearing.breathsFreely(told, trial);
    }

    public int drawnLeast(int seed, int n) {
        if (lacksDraws(seed, n)) {
            return NONE;
        }
        trial.copyFrom(now);
        int at = seed;
        int fewest = 0;
        for (int i = 0; i < n; i++) {
            at = drawOrders(at);
            int breaths = hearing.breathsFreely(told, trial);
            if (i == 0 || breaths < fewest) {
                fewest = breaths;
            }
        }
        return fewest;
    }

    private boolean lacksDraws(int seed, int n) {
        if (lacksNumber(seed, 0, SEED_MODULUS - 1)) {
            return true;
        }
        return lacksNumber(n, 1, MOST_DRAWN);
    }

    /** Puts the next of the ORDERS on trial; answers what the SEED has become. */
    private int drawOrders(int seed) {
        int at = seed;
        for (int k = 0; k < told.nodes; k++) {
            int parts = told.parts[k];
            if (parts > 0) {
                at = (75 * at + 74) % SEED_MODULUS;
                trial.turnRound(now, k, parts, at % parts);
            }
        }
        return at;
    }

    // ---- acts

    public boolean say(int k, int worth) {
        if (lacksWord(k) || lacksNumber(worth, 0, MOST_WORTH)) {
            return false;
        }
        if (now.worths[k] == worth) {
            refusal = NOT_SO;
            return false;
        }
        acts.keep(k, now.worths[k], true);
        now.worths[k] = worth;
        return true;
    }

    public int front(int k, int i) {
        if (lacksPart(k, i)) {
            return NONE;
        }
        if (i == 0) {
            return refuse(NOT_SO);
        }
        acts.keep(k, i, false);
        now.bringFirst(k, i);
        return now.partAt(told, k, 0);
    }

    public boolean undo() {
        refusal = acts.count > 0 ? 0 : NOTHING;
        return refusal == 0 && acts.takeBack(now);
    }

    public int image() {
        if (lacksCourt()) {
            return NONE;
        }
        if (imageCount >= IMAGE_ROOM) {
            return refuse(NO_ROOM);
        }
        images[imageCount].copyFrom(now);
        imageCount++;
        return imageCount - 1;
    }

    public boolean back(int image) {
        if (image < 0 || image >= imageCount) {
            refusal = NO_SUCH;
            return false;
        }
        now.copyFrom(images[image]);
        acts.forget();
        refusal = 0;
        return true;
    }

    // ---- what is told

    public int led(int i) throws NoSuchElementException {
        int word = told.nodes > 0 ? unheardWord(i) : NONE;
        if (word < 0) {
            throw new NoSuchElementException("no such word");
        }
        return word;
    }

    private int unheardWord(int i) {
        hearing.breathsFreely(told, now);
        int seen = 0;
        for (int k = 0; k < told.nodes; k++) {
            if (told.kind[k] == WORD && (hearing.heardBits >> k & 1) == 0) {
                if (seen == i) {
                    return k;
                }
                seen++;
            }
        }
        return NONE;
    }

    public int size(int what) {
        switch (what) {
            case 0:
                return told.slips;
            case 1:
                return told.nodes;
            case 2:
                return told.words;
            case 3:
                return told.unsures;
            case 4:
                return told.saidWorth >= 0 ? 1 : 0;
            case 5:
                return acts.count;
            case 6:
                return imageCount;
            case 7:
                return reader.tapeSize;
            default:
                return NONE;
        }
    }

    public int trouble() {
        return refusal;
    }

    // ---- refusals

    private int refuse(int number) {
        refusal = number;
        return NONE;
    }

    private boolean lacksCourt() {
        refusal = told.nodes > 0 ? 0 : NO_SUCH;
        return refusal != 0;
    }

    private boolean lacksNode(int k) {
        refusal = told.hasNode(k) ? 0 : NO_SUCH;
        return refusal != 0;
    }

    private boolean lacksWord(int k) {
        refusal = told.hasWord(k) ? 0 : NO_SUCH;
        return refusal != 0;
    }

    private boolean lacksPart(int k, int i) {
        refusal = told.hasNode(k) && i >= 0 && i < told.parts[k] ? 0 : NO_SUCH;
        return refusal != 0;
    }

    private boolean lacksNumber(int number, int least, int most) {
        if (lacksCourt()) {
            return true;
        }
        refusal = number >= least && number <= most ? 0 : NUMBER;
        return refusal != 0;
    }

    // ---- numbers

    private static long inLowestTerms(long upper, long lower, boolean wantsLower) {
        long common = greatestCommon(upper, lower);
        if (common <= 0) {
            return NO_WORTH;
        }
        return (wantsLower ? lower : upper) / common;
    }

    private static long greatestCommon(long a, long b) {
        long greater = a;
        long less = b;
        for (int i = 0; i < 1000 && less != 0; i++) {
            long left = greater % less;
            greater = less;
            less = left;
        }
        return greater;
    }

    private static int wholeOf(int upper, int lower) {
        return lower > 0 ? upper / lower : 0;
    }

    /** What a text told; but for the reading nothing in it changes. */
    private static final class Court {
        int nodes;
        int words;
        int chances;
        int unsures;
        int slips;
        int throneNode;
        int saidWorth;
        /** Every WORTH that can come about is a whole number of parts of which a unit has so many. */
        int unit;
        final int[] kind = new int[NODE_ROOM];
        final int[] parts = new int[NODE_ROOM];
        final int[] partNodes = new int[NODE_ROOM * PART_ROOM];
        final int[] weights = new int[NODE_ROOM * PART_ROOM];
        final int[] weightSums = new int[NODE_ROOM];
        final int[] toldWorths = new int[NODE_ROOM];
        final int[] steps = new int[NODE_ROOM];
        final int[] below = new int[NODE_ROOM];
        final int[] above = new int[NODE_ROOM];
        final int[] unsureWords = new int[UNSURE_ROOM];
        final int[] unsureWorths = new int[UNSURE_ROOM];

        Court() {
            saidWorth = NONE;
            throneNode = NONE;
            unit = 1;
        }

        void clear() {
            nodes = 0;
            words = 0;
            chances = 0;
            unsures = 0;
            slips = 0;
            throneNode = NONE;
            saidWorth = NONE;
            unit = 1;
        }

        boolean hasNode(int k) {
            return k >= 0 && k < nodes;
        }

        boolean hasWord(int k) {
            return hasNode(k) && kind[k] == WORD;
        }

        boolean hasRoomFor(int itsKind) {
            if (nodes >= NODE_ROOM) {
                return false;
            }
            if (itsKind == WORD) {
                return words < WORD_ROOM;
            }
            return nodes - words < RULER_ROOM && (itsKind != CHANCE || chances < CHANCE_ROOM);
        }

        boolean hasRoomForPart() {
            return nodes < NODE_ROOM && parts[nodes] < PART_ROOM;
        }

        /** Begins the NODE that is told next; it counts only from its end on. */
        void beginNode(int itsKind) {
            if (nodes < NODE_ROOM) {
                kind[nodes] = itsKind;
                parts[nodes] = 0;
                weightSums[nodes] = 0;
                toldWorths[nodes] = 0;
                steps[nodes] = 0;
                below[nodes] = itsKind == WORD ? 1 << nodes : 0;
                above[nodes] = 0;
            }
        }

        void addPart(int part, int weight) {
            if (hasRoomForPart() && hasNode(part)) {
                int at = nodes * PART_ROOM + parts[nodes];
                partNodes[at] = part;
                weights[at] = weight;
                parts[nodes]++;
                weightSums[nodes] += weight;
                steps[nodes] = Math.max(steps[nodes], steps[part] + 1);
                below[nodes] |= below[part];
                above[part] |= 1 << nodes;
            }
        }

        void endNode(int worth) {
            if (nodes < NODE_ROOM) {
                toldWorths[nodes] = worth;
                if (kind[nodes] == WORD) {
                    words++;
                }
                if (kind[nodes] == CHANCE) {
                    chances++;
                    unit *= weightSums[nodes];
                }
                nodes++;
            }
        }

        /** Where a NODE stands among the PARTS of the NODE k as told, which may be the one begun. */
        int placeOfPart(int k, int part) {
            if (k < 0 || k >= NODE_ROOM) {
                return NONE;
            }
            for (int i = 0; i < parts[k]; i++) {
                if (partNodes[k * PART_ROOM + i] == part) {
                    return i;
                }
            }
            return NONE;
        }

        boolean isUnsure(int word) {
            for (int j = 0; j < unsures; j++) {
                if (unsureWords[j] == word) {
                    return true;
                }
            }
            return false;
        }

        void addUnsure(int word, int worth) {
            if (unsures < UNSURE_ROOM) {
                unsureWords[unsures] = word;
                unsureWorths[unsures] = worth;
                unsures++;
            }
        }

        int unsureSets() {
            return 1 << unsures;
        }

        long likelihood(int set) {
            long likely = 1;
            for (int j = 0; j < unsures; j++) {
                likely *= (set >> j & 1) == 1 ? slips : MOST_SLIPS - slips;
            }
            return likely;
        }

        long allLikelihood() {
            long all = 1;
            for (int j = 0; j < unsures; j++) {
                all *= MOST_SLIPS;
            }
            return all;
        }
    }

    /** What acts change: the words' worths and the PARTS' orders. */
    private static final class Stand {
        final int[] worths = new int[NODE_ROOM];
        /** At each place of a NODE which of its PARTS, as told, stands there. */
        final int[] order = new int[NODE_ROOM * PART_ROOM];
        private final int[] left = new int[PART_ROOM];

        void standAsTold(Court court) {
            for (int k = 0; k < NODE_ROOM; k++) {
                worths[k] = court.toldWorths[k];
                for (int i = 0; i < PART_ROOM; i++) {
                    order[k * PART_ROOM + i] = i;
                }
            }
        }

        void copyFrom(Stand other) {
            System.arraycopy(other.worths, 0, worths, 0, NODE_ROOM);
            System.arraycopy(other.order, 0, order, 0, NODE_ROOM * PART_ROOM);
        }

        int partAt(Court court, int k, int i) {
            return court.partNodes[k * PART_ROOM + order[k * PART_ROOM + i]];
        }

        int weightAt(Court court, int k, int i) {
            return court.weights[k * PART_ROOM + order[k * PART_ROOM + i]];
        }

        void bringFirst(int k, int i) {
            int base = k * PART_ROOM;
            int moved = order[base + i];
            for (int j = i; j > 0; j--) {
                order[base + j] = order[base + j - 1];
            }
            order[base] = moved;
        }

        void sendBack(int k, int i) {
            int base = k * PART_ROOM;
            int moved = order[base];
            for (int j = 0; j < i; j++) {
                order[base + j] = order[base + j + 1];
            }
            order[base + i] = moved;
        }

        /** One of all orders: the code's digits say which of those left comes next. */
        void putInOrder(int k, int parts, int code) {
            int base = k * PART_ROOM;
            for (int i = 0; i < parts; i++) {
                left[i] = order[base + i];
            }
            int rest = code;
            for (int many = parts; many > 0; many--) {
                int pick = rest % many;
                rest /= many;
                order[base + parts - many] = left[pick];
                for (int j = pick; j < many - 1; j++) {
                    left[j] = left[j + 1];
                }
            }
        }

        /** So many of the first ones, as they stand in the other, go behind. */
        void turnRound(Stand from, int k, int parts, int many) {
            int base = k * PART_ROOM;
            for (int i = 0; i < parts; i++) {
                int source = i + many;
                order[base + i] = from.order[base + (source < parts ? source : source - parts)];
            }
        }
    }

    /** The latest acts, the oldest first. */
    private static final class Acts {
        int count;
        private final int[] nodes = new int[UNDO_ROOM];
        private final int[] olds = new int[UNDO_ROOM];
        private final boolean[] says = new boolean[UNDO_ROOM];

        void forget() {
            count = 0;
        }

        /** What was: of a word its worth, of a PART put first its place. */
        void keep(int node, int old, boolean isSay) {
            if (count == UNDO_ROOM) {
                dropOldest();
            }
            nodes[count] = node;
            olds[count] = old;
            says[count] = isSay;
            count++;
        }

        private void dropOldest() {
            for (int i = 1; i < UNDO_ROOM; i++) {
                nodes[i - 1] = nodes[i];
                olds[i - 1] = olds[i];
                says[i - 1] = says[i];
            }
            count = UNDO_ROOM - 1;
        }

        boolean takeBack(Stand stand) {
            if (count == 0) {
                return false;
            }
            count--;
            if (says[count]) {
                stand.worths[nodes[count]] = olds[count];
            } else {
                stand.sendBack(nodes[count], olds[count]);
            }
            return true;
        }
    }

    /** Worths of all NODES, in parts of the court's unit. */
    private static final class Scale {
        final int[] values = new int[NODE_ROOM];
        private final int[] supposed = new int[NODE_ROOM];

        /** PARTS are told ahead, so going by numbers finds them weighed. */
        int weighAll(Court court, int[] worths) {
            for (int k = 0; k < court.nodes; k++) {
                values[k] = court.kind[k] == WORD ? worths[k] * court.unit : joined(court, k);
            }
            return throneValue(court);
        }

        private int throneValue(Court court) {
            return court.hasNode(court.throneNode) ? values[court.throneNode] : 0;
        }

        private int joined(Court court, int k) {
            int kind = court.kind[k];
            int got = 0;
            for (int i = 0; i < court.parts[k]; i++) {
                int at = k * PART_ROOM + i;
                int value = values[court.partNodes[at]];
                if (kind == CHANCE) {
                    got += value * court.weights[at];
                } else if (i == 0 || (kind == KING ? value > got : value < got)) {
                    got = value;
                }
            }
            return kind == CHANCE ? wholeOf(got, court.weightSums[k]) : got;
        }

        int throneByWord(Court court, Stand stand, int word, int worth) {
            System.arraycopy(stand.worths, 0, supposed, 0, NODE_ROOM);
            if (court.hasNode(word)) {
                supposed[word] = worth;
            }
            return weighAll(court, supposed);
        }

        int throneBySet(Court court, Stand stand, int set, int others) {
            for (int k = 0; k < court.nodes; k++) {
                supposed[k] = (set >> k & 1) == 1 ? stand.worths[k] : others;
            }
            return weighAll(court, supposed);
        }

        int throneByUnsure(Court court, int[] worths, int set) {
            System.arraycopy(worths, 0, supposed, 0, NODE_ROOM);
            for (int j = 0; j < court.unsures; j++) {
                if ((set >> j & 1) == 1) {
                    supposed[court.unsureWords[j]] = court.unsureWorths[j];
                }
            }
            return weighAll(court, supposed);
        }

        /** How many ways lead from the THRONE to words: a breath each, if all were heard. */
        int waysDown(Court court) {
            for (int k = 0; k < court.nodes; k++) {
                values[k] = court.kind[k] == WORD ? 1 : 0;
                for (int i = 0; i < court.parts[k]; i++) {
                    values[k] += values[court.partNodes[k * PART_ROOM + i]];
                }
            }
            return throneValue(court);
        }

        void weighNightNone(Court court, int[] worths) {
            for (int k = 0; k < court.nodes; k++) {
                values[k] = (court.kind[k] == WORD ? worths[k] : NIGHT_WORTH) * court.unit;
            }
        }

        /** Downwards by numbers, so that PARTS still have what they had a night ahead. */
        void weighNextNight(Court court) {
            for (int k = court.nodes - 1; k >= 0; k--) {
                if (court.kind[k] != WORD) {
                    values[k] = joined(court, k);
                }
            }
        }
    }

    /** HEARING and ASKING, with the breaths that they need. */
    private static final class Hearing {
        private static final int BELOW_ALL = -1;

        int breaths;
        int heardBits;
        int cutCount;
        int halfBreaths;
        int halfQuestions;
        private final int[] heardWords = new int[LIST_ROOM];
        private final int[] cutParts = new int[LIST_ROOM];

        private static int aboveAll(Court court) {
            return (MOST_WORTH + 1) * court.unit;
        }

        private void begin() {
            breaths = 0;
            heardBits = 0;
            cutCount = 0;
        }

        int breathsFreely(Court court, Stand stand) {
            begin();
            listen(court, stand, court.throneNode, BELOW_ALL, aboveAll(court), 0);
            return breaths;
        }

        int hearWithin(Court court, Stand stand, int low, int high) {
            begin();
            return listen(court, stand, court.throneNode, low * court.unit, high * court.unit, 0);
        }

        boolean asked(Court court, Stand stand, int much) {
            begin();
            return isSoMuch(court, stand, court.throneNode, much * court.unit, 0);
        }

        void askByHalves(Court court, Stand stand) {
            halfBreaths = 0;
            halfQuestions = 0;
            int low = 0;
            int high = MOST_WORTH;
            for (int i = 0; i < MOST_WORTH && low < high; i++) {
                int middle = (low + high + 1) / 2;
                if (asked(court, stand, middle)) {
                    low = middle;
                } else {
                    high = middle - 1;
                }
                halfBreaths += breaths;
                halfQuestions++;
            }
        }

        int wordAt(int i) {
            return i >= 0 && i < breaths && i < LIST_ROOM ? heardWords[i] : NONE;
        }

        int cutPartAt(int i) {
            return i >= 0 && i < cutCount && i < LIST_ROOM ? cutParts[i] : NONE;
        }

        private int listen(Court court, Stand stand, int k, int low, int high, int depth) {
            if (depth > DEPTH_ROOM || !court.hasNode(k)) {
                return 0;
            }
            if (court.kind[k] == WORD) {
                noteWord(k);
                return stand.worths[k] * court.unit;
            }
            if (court.kind[k] == CHANCE) {
                return listenToChance(court, stand, k, depth);
            }
            return listenToRuler(court, stand, k, low, high, depth);
        }

        private void noteWord(int k) {
            if (breaths < LIST_ROOM) {
                heardWords[breaths] = k;
            }
            breaths++;
            heardBits |= 1 << k;
        }

        private int listenToChance(Court court, Stand stand, int k, int depth) {
            int sum = 0;
            for (int i = 0; i < court.parts[k]; i++) {
                int part = stand.partAt(court, k, i);
                int came = listen(court, stand, part, BELOW_ALL, aboveAll(court), depth + 1);
                sum += came * stand.weightAt(court, k, i);
            }
            return wholeOf(sum, court.weightSums[k]);
        }

        private int listenToRuler(Court court, Stand stand, int k, int low, int high, int depth) {
            boolean king = court.kind[k] == KING;
            int lower = low;
            int upper = high;
            int got = 0;
            for (int i = 0; i < court.parts[k]; i++) {
                int came = listen(court, stand, stand.partAt(court, k, i), lower, upper, depth + 1);
                if (i == 0 || (king ? came > got : came < got)) {
                    got = came;
                }
                if (king ? got >= upper : got <= lower) {
                    noteCuts(court, stand, k, i + 1);
                    return got;
                }
                if (king) {
                    lower = Math.max(lower, got);
                } else {
                    upper = Math.min(upper, got);
                }
            }
            return got;
        }

        private void noteCuts(Court court, Stand stand, int k, int from) {
            for (int i = from; i < court.parts[k]; i++) {
                if (cutCount < LIST_ROOM) {
                    cutParts[cutCount] = stand.partAt(court, k, i);
                }
                cutCount++;
            }
        }

        private boolean isSoMuch(Court court, Stand stand, int k, int much, int depth) {
            if (depth > DEPTH_ROOM || !court.hasNode(k)) {
                return false;
            }
            if (court.kind[k] == WORD || court.kind[k] == CHANCE) {
                return listen(court, stand, k, BELOW_ALL, aboveAll(court), depth) >= much;
            }
            boolean king = court.kind[k] == KING;
            for (int i = 0; i < court.parts[k]; i++) {
                if (isSoMuch(court, stand, stand.partAt(court, k, i), much, depth + 1) == king) {
                    return king;
                }
            }
            return !king;
        }
    }

    /** Holds THE TAPE and reads it, TOKEN by TOKEN, into a court, up to the first FAULT. */
    private static final class Reader {
        private static final int TOKEN_END = 0;
        private static final int TOKEN_WORD = 1;
        private static final int TOKEN_WHOLE = 2;
        private static final int TOKEN_SEMICOLON = 3;
        private static final int TOKEN_COMMA = 4;
        private static final int TOKEN_BAD = 5;
        private static final int WORD_LENGTH = 8;
        private static final int WHOLE_LENGTH = 3;

        private static final int FAULT_FORM = 1;
        private static final int FAULT_UNTOLD = 2;
        private static final int FAULT_AGAIN = 3;
        private static final int FAULT_BOUNDS = 4;
        private static final int FAULT_MANY = 5;
        private static final int FAULT_LACKS = 6;

        /** Those that begin a LINE stand first: they are no NAMES. */
        private static final int KEY_WORD = 0;
        private static final int KEY_KING = 1;
        private static final int KEY_QUEEN = 2;
        private static final int KEY_CHANCE = 3;
        private static final int KEY_COURT = 4;
        private static final int KEY_THRONE = 5;
        private static final int KEY_UNSURE = 6;
        private static final int KEY_SAID = 7;
        private static final int KEY_SLIPS = 8;
        private static final int KEY_WORTH = 9;
        private static final int KEYS = 10;

        int faultNumber;
        int faultPlace;
        int tapeSize;
        private final byte[] tape = new byte[TAPE_ROOM];
        private int end;
        private int tokenKind;
        private int tokenFrom;
        private int tokenTo;
        private long tokenName;
        private int tokenKey;
        private int tokenWhole;
        private Court court = new Court();
        private boolean courtTold;
        private final long[] names = new long[NODE_ROOM];
        private final long[] keys = new long[KEYS];

        Reader() {
            keys[KEY_WORD] = nameOf("word");
            keys[KEY_KING] = nameOf("king");
            keys[KEY_QUEEN] = nameOf("queen");
            keys[KEY_CHANCE] = nameOf("chance");
            keys[KEY_COURT] = nameOf("court");
            keys[KEY_THRONE] = nameOf("throne");
            keys[KEY_UNSURE] = nameOf("unsure");
            keys[KEY_SAID] = nameOf("said");
            keys[KEY_SLIPS] = nameOf("slips");
            keys[KEY_WORTH] = nameOf("worth");
        }

        void putBytes(int number) {
            for (int shift = 24; shift >= 0; shift -= 8) {
                if (tapeSize < TAPE_ROOM) {
                    tape[tapeSize] = (byte) (number >> shift);
                    tapeSize++;
                }
            }
        }

        /** Hands over the court that was read and takes another one to read into. */
        Court exchanged(Court other) {
            Court read = court;
            court = other;
            return read;
        }

        /** Reads the first bytes of THE TAPE, which is empty then. */
        boolean reads(int n) {
            tapeSize = 0;
            end = n;
            court.clear();
            courtTold = false;
            faultNumber = 0;
            faultPlace = NONE;
            tokenTo = 0;
            nextToken();
            boolean fine = readLine();
            for (int i = 0; i < TAPE_ROOM && fine && tokenKind == TOKEN_SEMICOLON; i++) {
                nextToken();
                fine = readLine();
            }
            return fine && readEnd();
        }

        private boolean readEnd() {
            if (tokenKind != TOKEN_END) {
                return faulty(FAULT_FORM);
            }
            if (court.words == 0) {
                return faulty(FAULT_LACKS);
            }
            if (court.throneNode < 0) {
                court.throneNode = court.nodes - 1;
            }
            return true;
        }

        private boolean faulty(int number) {
            faultNumber = number;
            faultPlace = tokenFrom;
            return false;
        }

        private boolean readLine() {
            if (!isLineKey()) {
                return faulty(FAULT_FORM);
            }
            if (!courtTold && tokenKey != KEY_COURT) {
                return faulty(FAULT_LACKS);
            }
            switch (tokenKey) {
                case KEY_COURT:
                    return readCourt();
                case KEY_WORD:
                    return readWord();
                case KEY_KING:
                    return readRuler(KING);
                case KEY_QUEEN:
                    return readRuler(QUEEN);
                case KEY_CHANCE:
                    return readRuler(CHANCE);
                case KEY_THRONE:
                    return readThrone();
                case KEY_UNSURE:
                    return readUnsure();
                default:
                    return readSaid();
            }
        }

        private boolean readCourt() {
            if (courtTold) {
                return faulty(FAULT_AGAIN);
            }
            courtTold = true;
            nextToken();
            if (tokenKey != KEY_SLIPS) {
                return faulty(FAULT_FORM);
            }
            nextToken();
            if (!isWholeWithin(0, MOST_SLIPS)) {
                return false;
            }
            court.slips = tokenWhole;
            nextToken();
            return true;
        }

        private boolean readWord() {
            if (!court.hasRoomFor(WORD)) {
                return faulty(FAULT_MANY);
            }
            court.beginNode(WORD);
            nextToken();
            if (!isNewName()) {
                return false;
            }
            long name = tokenName;
            nextToken();
            if (tokenKey != KEY_WORTH) {
                return faulty(FAULT_FORM);
            }
            nextToken();
            if (!isWholeWithin(0, MOST_WORTH)) {
                return false;
            }
            endNode(name, tokenWhole);
            nextToken();
            return true;
        }

        private boolean readRuler(int kind) {
            if (!court.hasRoomFor(kind)) {
                return faulty(FAULT_MANY);
            }
            court.beginNode(kind);
            nextToken();
            if (!isNewName()) {
                return false;
            }
            long name = tokenName;
            nextToken();
            boolean fine = readPart(kind);
            for (int i = 0; i <= PART_ROOM && fine && tokenKind == TOKEN_COMMA; i++) {
                nextToken();
                fine = readPart(kind);
            }
            if (fine) {
                endNode(name, 0);
            }
            return fine;
        }

        private boolean readPart(int kind) {
            if (!isToldName()) {
                return false;
            }
            int part = toldNode();
            if (court.placeOfPart(court.nodes, part) >= 0) {
                return faulty(FAULT_AGAIN);
            }
            if (!court.hasRoomForPart()) {
                return faulty(FAULT_MANY);
            }
            nextToken();
            int weight = 0;
            if (kind == CHANCE) {
                if (!isWholeWithin(1, MOST_WEIGHT)) {
                    return false;
                }
                weight = tokenWhole;
                nextToken();
            }
            court.addPart(part, weight);
            return true;
        }

        private boolean readThrone() {
            if (court.throneNode >= 0) {
                return faulty(FAULT_AGAIN);
            }
            nextToken();
            if (!isToldName()) {
                return false;
            }
            court.throneNode = toldNode();
            nextToken();
            return true;
        }

        private boolean readUnsure() {
            if (court.unsures >= UNSURE_ROOM) {
                return faulty(FAULT_MANY);
            }
            nextToken();
            if (!isToldName()) {
                return false;
            }
            int word = toldNode();
            if (!court.hasWord(word)) {
                return faulty(FAULT_UNTOLD);
            }
            if (court.isUnsure(word)) {
                return faulty(FAULT_AGAIN);
            }
            nextToken();
            if (!isWholeWithin(0, MOST_WORTH)) {
                return false;
            }
            court.addUnsure(word, tokenWhole);
            nextToken();
            return true;
        }

        private boolean readSaid() {
            if (court.saidWorth >= 0) {
                return faulty(FAULT_AGAIN);
            }
            nextToken();
            if (!isWholeWithin(0, MOST_WORTH)) {
                return false;
            }
            court.saidWorth = tokenWhole;
            nextToken();
            return true;
        }

        private void endNode(long name, int worth) {
            if (court.nodes < NODE_ROOM) {
                names[court.nodes] = name;
            }
            court.endNode(worth);
        }

        private boolean isLineKey() {
            return tokenKey >= 0 && tokenKey <= KEY_SAID;
        }

        // Each of these notes the FAULT if the TOKEN is not what is due.

        private boolean isNewName() {
            if (tokenKind != TOKEN_WORD || isLineKey()) {
                return faulty(FAULT_FORM);
            }
            return toldNode() < 0 || faulty(FAULT_AGAIN);
        }

        private boolean isToldName() {
            if (tokenKind != TOKEN_WORD || isLineKey()) {
                return faulty(FAULT_FORM);
            }
            return toldNode() >= 0 || faulty(FAULT_UNTOLD);
        }

        private boolean isWholeWithin(int least, int most) {
            if (tokenKind != TOKEN_WHOLE) {
                return faulty(FAULT_FORM);
            }
            return (tokenWhole >= least && tokenWhole <= most) || faulty(FAULT_BOUNDS);
        }

        private int toldNode() {
            for (int k = 0; k < court.nodes; k++) {
                if (names[k] == tokenName) {
                    return k;
                }
            }
            return NONE;
        }

        private void nextToken() {
            int place = tokenTo;
            while (place < end && byteAt(place) == ' ') {
                place++;
            }
            tokenFrom = place;
            tokenTo = place + 1;
            tokenKey = NONE;
            int sign = byteAt(place);
            if (place >= end) {
                tokenKind = TOKEN_END;
                tokenTo = end;
            } else if (isLetter(sign)) {
                takeLetters();
            } else if (isDigit(sign)) {
                takeDigits();
            } else {
                tokenKind = sign == ';' ? TOKEN_SEMICOLON : sign == ',' ? TOKEN_COMMA : TOKEN_BAD;
            }
        }

        private void takeLetters() {
            int place = tokenFrom;
            tokenName = 0;
            while (place < end && isLetter(byteAt(place))) {
                tokenName = withLetter(tokenName, byteAt(place));
                place++;
            }
            tokenTo = place;
            tokenKind = place - tokenFrom <= WORD_LENGTH ? TOKEN_WORD : TOKEN_BAD;
            for (int i = 0; i < KEYS && tokenKind == TOKEN_WORD; i++) {
                if (keys[i] == tokenName) {
                    tokenKey = i;
                }
            }
        }

        private void takeDigits() {
            int place = tokenFrom;
            tokenWhole = 0;
            while (place < end && isDigit(byteAt(place))) {
                tokenWhole = tokenWhole * 10 + (byteAt(place) - '0');
                place++;
            }
            tokenTo = place;
            tokenKind = place - tokenFrom <= WHOLE_LENGTH ? TOKEN_WHOLE : TOKEN_BAD;
        }

        private int byteAt(int place) {
            return place >= 0 && place < TAPE_ROOM ? tape[place] : 0;
        }

        private static boolean isLetter(int sign) {
            return sign >= 'a' && sign <= 'z';
        }

        private static boolean isDigit(int sign) {
            return sign >= '0' && sign <= '9';
        }

        /** Five bits a letter: no two WORDS of up to eight are the same number. */
        private static long withLetter(long name, int letter) {
            return name * 32 + (letter - 'a' + 1);
        }

        private static long nameOf(String word) {
            long name = 0;
            for (int i = 0; i < word.length(); i++) {
                name = withLetter(name, word.charAt(i));
            }
            return name;
        }
    }
}
