// A shop that sells words by what they weigh; ../shared/DOC.md says what each call promises.
public final class WordScales {
    public static final int UNKNOWN = -1, OUTSIDE = -2, STATE = -3, FULL = -4, NO = -5, NONE = -6;
    public static final long GONE = -1000000000000000000L;

    private static final int WORDS = 12, ALL_WORDS = 4095;
    private static final int SPEAKERS = 4, ALL_SPEAKERS = 15;
    private static final int FIRST_WEIGHT = 10, MOST_WEIGHT = 99;
    private static final int FIRST_PURSE = 50, MOST_PURSE = 999;
    private static final int THING = 0, DEED = 1, SORT = 2;
    private static final int MOST_SIGNS = 60, LEAST_SIGN = 33, MOST_SIGN = 126;
    private static final int LONGEST = 8, MOST_WISHES = 8, MOST_SIGHTS = 6, IMAGES = 2;
    private static final int LEFT_LIGHTER = 0, RIGHT_LIGHTER = 1, NEITHER = 2;
    private static final int MOST_PRICE = 40, MOST_DAYS = 8, TENTHS = 10;
    private static final int MOST_COST = 20, MOST_TURNS = 99;
    private static final int MOST_SEED = 9999, MOST_ACTS = 99;

    // The acts of a text and of a year.
    private static final int BUY = 0, HAND_IN = 1, SPEAK = 2, GIVE = 3, END_SENTENCE = 4;

    // Why an act can not be; the numbers are those that judge(1) tells.
    private static final int FINE = 0, HAS_IT = 1, HAS_IT_NOT = 2, TOO_POOR = 3, TOO_RICH = 4, NO_SENTENCE = 5;

    private final Shop shop = new Shop();
    private final Shop yearShop = new Shop();
    private final Shop[] images = new Shop[IMAGES];
    private final int[] signs = new int[MOST_SIGNS];
    private int signCount = 0;
    private final Days days = new Days();
    // A price rises by 1 a day at most, so no price of the weather lies beyond this row.
    private final long[] means = new long[MOST_PRICE + MOST_DAYS + 1];

    public WordScales() {
    }

    // ---- 1 words, speakers

    public int word(int word, int weight, int kind) {
        if (!isWord(word)) {
            return UNKNOWN;
        }
        if (!isWithin(weight, 0, MOST_WEIGHT) || !isWithin(kind, THING, SORT)) {
            return OUTSIDE;
        }
        int was = shop.weights[word];
        shop.weights[word] = weight;
        shop.kinds[word] = kind;
        return was;
    }

    public int rhyme(int one, int other) {
        if (!isWord(one) || !isWord(other) || one == other) {
            return UNKNOWN;
        }
        shop.joinRhymes(one, other);
        return Integer.bitCount(shop.rhymes[one]) - 1;
    }

    public int part(int word) {
        if (!isWord(word)) {
            return UNKNOWN;
        }
        int others = Integer.bitCount(shop.rhymes[word]) - 1;
        shop.leaveRhymes(word);
        return others;
    }

    public int speaker(int speaker, int purse, int has) {
        if (!isSpeaker(speaker)) {
            return UNKNOWN;
        }
        if (!isWithin(purse, 0, MOST_PURSE) || !isSet(has)) {
            return OUTSIDE;
        }
        int was = shop.purses[speaker];
        shop.purses[speaker] = purse;
        shop.belongings[speaker] = has;
        return was;
    }

    public int say(int sign) {
        if (!isWithin(sign, LEAST_SIGN, MOST_SIGN)) {
            return OUTSIDE;
        }
        if (!isWithin(signCount, 0, MOST_SIGNS - 1)) {
            return FULL;
        }
        signs[signCount] = sign;
        signCount++;
        return signCount;
    }

    public int wipe() {
        int were = signCount;
        signCount = 0;
        return were;
    }

    public int fault() {
        return days.readAll(signs, signCount, shop) == NO ? days.faultPlace : NONE;
    }

    // ---- 2 days

    public int judge(int what) {
        if (!isWithin(what, 0, 2)) {
            return OUTSIDE;
        }
        int refusal = days.readAll(signs, signCount, shop);
        if (refusal == NO) {
            return NO;
        }
        if (what == 2) {
            return refusal == FINE ? days.sentences : refusal;
        }
        if (refusal == FINE) {
            return NONE;
        }
        return what == 0 ? days.badAct : days.why;
    }

    public int behind(int speaker, int what) {
        if (!isSpeaker(speaker)) {
            return UNKNOWN;
        }
        if (!isWithin(what, 0, 1)) {
            return OUTSIDE;
        }
        int refusal = days.readAll(signs, signCount, shop);
        if (refusal != FINE) {
            return refusal;
        }
        return what == 0 ? days.shop.purses[speaker] : days.shop.belongings[speaker];
    }

    public int worn(int word) {
        if (!isWord(word)) {
            return UNKNOWN;
        }
        int refusal = days.readAll(signs, signCount, shop);
        return refusal == FINE ? days.shop.weights[word] : refusal;
    }

    public int said(int what) {
        if (!isWithin(what, 0, 2)) {
            return OUTSIDE;
        }
        int refusal = days.readAll(signs, signCount, shop);
        if (refusal != FINE) {
            return refusal;
        }
        if (what == 2) {
            return days.heaviest;
        }
        return what == 0 ? days.spoken : days.row.length;
    }

    public int done() {
        int refusal = days.readAll(signs, signCount, shop);
        if (refusal != FINE) {
            return refusal;
        }
        shop.copyFrom(days.shop);
        signCount = 0;
        return days.acts;
    }

    public int scales(int set) {
        return isSet(set) ? shop.weigh(set) : OUTSIDE;
    }

    // ---- 3 sentences, wishes

    public long says(int speaker, int n) {
        if (!isSpeaker(speaker)) {
            return UNKNOWN;
        }
        if (!isWithin(n, 1, LONGEST)) {
            return OUTSIDE;
        }
        int has = shop.belongings[speaker];
        long things = shop.countKind(has, THING);
        long deeds = shop.countKind(has, DEED);
        long sorts = shop.countKind(has, SORT);
        long shorter = n < 2 ? 0 : power(sorts, n - 2) * things * deeds;
        // The n - 3 sorts of the longer form stand ahead of the first thing or of the last one: n - 2 ways.
        long longer = n < 3 ? 0 : (n - 2) * power(sorts, n - 3) * things * deeds * things;
        return shorter + longer;
    }

    public int cheap(int speaker, int n, int what) {
        if (!isSpeaker(speaker)) {
            return UNKNOWN;
        }
        if (!isWithin(n, 1, LONGEST) || !isWithin(what, 0, 1)) {
            return OUTSIDE;
        }
        int has = shop.belongings[speaker];
        int set = cheapestSentence(has, n);
        return what == 1 || set == NONE ? set : shop.priceOf(set & ~has);
    }

    public int pool(int n, int what) {
        if (!isWithin(n, 1, LONGEST) || !isWithin(what, 0, 1)) {
            return OUTSIDE;
        }
        int who = fewestSpeakers(n);
        return what == 1 || who == NONE ? who : Integer.bitCount(who);
    }

    public int wish(int set) {
        if (!isSet(set)) {
            return OUTSIDE;
        }
        if (!isWithin(shop.wishCount, 0, MOST_WISHES - 1)) {
            return FULL;
        }
        shop.wishes[shop.wishCount] = set;
        shop.wishCount++;
        return shop.wishCount;
    }

    public int unwish() {
        int were = shop.wishCount;
        shop.wishCount = 0;
        return were;
    }

    public int nine(int what) {
        if (!isWithin(what, 0, 1)) {
            return OUTSIDE;
        }
        int set = fewestWords();
        return what == 1 || set == NONE ? set : Integer.bitCount(set);
    }

    // ---- 4 the hollow one, weather, synonyms

    public int seen(int left, int right, int how) {
        if (!isSet(left) || !isSet(right) || !isWithin(how, LEFT_LIGHTER, NEITHER)) {
            return OUTSIDE;
        }
        if (Integer.bitCount(left) != Integer.bitCount(right) || (left & right) != 0) {
            return OUTSIDE;
        }
        int at = shop.sightCount;
        if (!isWithin(at, 0, MOST_SIGHTS - 1)) {
            return FULL;
        }
        shop.lefts[at] = left;
        shop.rights[at] = right;
        shop.outcomes[at] = how;
        shop.sightCount = at + 1;
        return at + 1;
    }

    public int forget() {
        int were = shop.sightCount;
        shop.sightCount = 0;
        return were;
    }

    public int hollow() {
        return shop.suspects();
    }

    public int lay(int what) {
        if (!isWithin(what, 0, 2)) {
            return OUTSIDE;
        }
        int suspects = Integer.bitCount(shop.suspects());
        if (what == 2) {
            return fewestWeighings(suspects);
        }
        if (suspects == 0) {
            return NONE;
        }
        int each = bestEach(suspects);
        return what == 0 ? each : mostLeft(suspects, each);
    }

    public long weather(int v, int m, int t, int what, int part) {
        boolean forecast = isWithin(v, 0, MOST_PRICE) && isWithin(m, 0, MOST_DAYS) && isWithin(t, 0, TENTHS);
        if (!forecast || !isWithin(what, 0, 1) || !isWithin(part, 0, 1)) {
            return GONE + OUTSIDE;
        }
        long upper = bestMean(v, m, t);
        long lower = power(TENTHS, m);
        if (what == 1) {
            return upper == v * lower ? 1 : 0;
        }
        // The lower number is 10 multiplied m times, so no other factors than 2 and 5 can be cut.
        for (int day = 0; day < m; day++) {
            if (upper % 2 == 0 && lower % 2 == 0) {
                upper /= 2;
                lower /= 2;
            }
            if (upper % 5 == 0 && lower % 5 == 0) {
                upper /= 5;
                lower /= 5;
            }
        }
        return part == 0 ? upper : lower;
    }

    public int synonyms(int v, int c, int p, int n) {
        boolean prices = isWithin(v, 0, MOST_PRICE) && isWithin(c, 0, MOST_COST) && isWithin(p, c + 1, MOST_PRICE);
        if (!prices || !isWithin(n, -1, MOST_TURNS)) {
            return OUTSIDE;
        }
        if (n == -1) {
            // From anywhere prices come down to c + 1 or jump to p, and then go from p to c + 1 round and round.
            return p - c;
        }
        int price = v;
        for (int turn = 0; turn < n; turn++) {
            price = price - 1 > c ? price - 1 : p;
        }
        return price;
    }

    public int year(int seed, int m, int what) {
        if (!isWithin(seed, 0, MOST_SEED) || !isWithin(m, 1, MOST_ACTS) || !isWithin(what, 0, 2)) {
            return OUTSIDE;
        }
        yearShop.copyFrom(shop);
        yearShop.liveYear(seed, m);
        if (what == 2) {
            return yearShop.countBelongings();
        }
        return what == 0 ? sumOf(yearShop.purses) : sumOf(yearShop.weights);
    }

    public int image(int k) {
        if (!isWithin(k, 0, IMAGES - 1)) {
            return OUTSIDE;
        }
        Shop kept = images[k];
        if (kept == null) {
            kept = new Shop();
            images[k] = kept;
        }
        kept.copyFrom(shop);
        return 1;
    }

    public int restore(int k) {
        if (!isWithin(k, 0, IMAGES - 1)) {
            return OUTSIDE;
        }
        Shop kept = images[k];
        if (kept == null) {
            return STATE;
        }
        shop.copyFrom(kept);
        return 1;
    }

    public int told(int what) {
        if (isWithin(what, 0, 2)) {
            return tellCount(what);
        }
        if (isWithin(what, 10, 10 + SPEAKERS - 1)) {
            return shop.purses[what - 10];
        }
        if (isWithin(what, 20, 20 + SPEAKERS - 1)) {
            return shop.belongings[what - 20];
        }
        if (isWithin(what, 100, 100 + 10 * WORDS - 1)) {
            return tellWord((what - 100) / 10, (what - 100) % 10);
        }
        return OUTSIDE;
    }

    // ---- behind the face

    private int tellCount(int what) {
        if (what == 0) {
            return signCount;
        }
        return what == 1 ? shop.wishCount : shop.sightCount;
    }

    private int tellWord(int word, int what) {
        if (!isWord(word)) {
            return OUTSIDE;
        }
        switch (what) {
            case 0:
                return shop.weights[word];
            case 1:
                return shop.kinds[word];
            case 2:
                return shop.rhymes[word] & ~(1 << word);
            default:
                return OUTSIDE;
        }
    }

    private int cheapestSentence(int has, int n) {
        int things = shop.ofKind(THING);
        int deeds = shop.ofKind(DEED);
        int best = NONE;
        int least = 0;
        for (int set = 0; set <= ALL_WORDS; set++) {
            // With one deed and one or two things all the others are sorts, and any number of these will do.
            if (Integer.bitCount(set) == n && Integer.bitCount(set & deeds) == 1
                    && isWithin(Integer.bitCount(set & things), 1, 2)) {
                int price = shop.priceOf(set & ~has);
                if (best == NONE || price < least) {
                    best = set;
                    least = price;
                }
            }
        }
        return best;
    }

    private int fewestSpeakers(int n) {
        int best = NONE;
        int fewest = SPEAKERS + 1;
        for (int who = 1; who <= ALL_SPEAKERS; who++) {
            int number = Integer.bitCount(who);
            if (number < fewest && shop.canSayOnce(shop.heldBy(who), n)) {
                best = who;
                fewest = number;
            }
        }
        return best;
    }

    private int fewestWords() {
        int best = NONE;
        int fewest = WORDS + 1;
        for (int set = 0; set <= ALL_WORDS; set++) {
            int number = Integer.bitCount(set);
            if (number < fewest && shop.grantsAll(set)) {
                best = set;
                fewest = number;
            }
        }
        return best;
    }

    private static int bestEach(int suspects) {
        int best = 0;
        for (int each = 1; each <= suspects / 2; each++) {
            if (mostLeft(suspects, each) < mostLeft(suspects, best)) {
                best = each;
            }
        }
        return best;
    }

    private static int mostLeft(int suspects, int each) {
        return Math.max(each, suspects - 2 * each);
    }

    /** Each weighing leaves a third of the suspects, rounded up, at best. */
    private static int fewestWeighings(int suspects) {
        int found = 1;
        int weighings = 0;
        while (found < suspects && weighings < WORDS) {
            found *= 3;
            weighings++;
        }
        return weighings;
    }

    /** The best mean, multiplied by 10 for each day. */
    private long bestMean(int today, int daysLeft, int tenths) {
        for (int price = 0; price < means.length; price++) {
            means[price] = price;
        }
        long scale = 1;
        for (int day = 1; day <= daysLeft; day++) {
            scale *= TENTHS;
            // The row is overwritten from the low end: what stood one lower is held here; 0 falls to 0.
            long lower = means[0];
            for (int price = 0; price + 1 < means.length; price++) {
                long here = means[price];
                long waiting = tenths * means[price + 1] + (TENTHS - tenths) * lower;
                means[price] = Math.max(price * scale, waiting);
                lower = here;
            }
        }
        return isWithin(today, 0, means.length - 1) ? means[today] : 0;
    }

    private static boolean isWithin(int number, int least, int most) {
        return least <= number && number <= most;
    }

    private static boolean isWord(int word) {
        return isWithin(word, 0, WORDS - 1);
    }

    private static boolean isSpeaker(int speaker) {
        return isWithin(speaker, 0, SPEAKERS - 1);
    }

    private static boolean isSet(int set) {
        return isWithin(set, 0, ALL_WORDS);
    }

    private static boolean isIn(int member, int set) {
        return (set >> member & 1) == 1;
    }

    private static long power(long base, int exponent) {
        long product = 1;
        for (int factor = 0; factor < exponent; factor++) {
            product *= base;
        }
        return product;
    }

    private static int sumOf(int[] row) {
        int sum = 0;
        for (int place = 0; place < row.length; place++) {
            sum += row[place];
        }
        return sum;
    }

    private static void copyRow(int[] from, int[] to) {
        for (int place = 0; place < from.length && place < to.length; place++) {
            to[place] = from[place];
        }
    }

    /** All that an image keeps: words, speakers, wishes, sights. */
    private static final class Shop {
        private final int[] weights = new int[WORDS];
        private final int[] kinds = new int[WORDS];
        // With the word itself, so that a group of rhymes is one and the same set for all in it.
        private final int[] rhymes = new int[WORDS];
        private final int[] purses = new int[SPEAKERS];
        private final int[] belongings = new int[SPEAKERS];
        private final int[] wishes = new int[MOST_WISHES];
        private int wishCount = 0;
        private final int[] lefts = new int[MOST_SIGHTS];
        private final int[] rights = new int[MOST_SIGHTS];
        private final int[] outcomes = new int[MOST_SIGHTS];
        private int sightCount = 0;

        private Shop() {
            for (int word = 0; word < WORDS; word++) {
                weights[word] = FIRST_WEIGHT;
                kinds[word] = THING;
                rhymes[word] = 1 << word;
            }
            for (int speaker = 0; speaker < SPEAKERS; speaker++) {
                purses[speaker] = FIRST_PURSE;
            }
        }

        private void copyFrom(Shop other) {
            copyRow(other.weights, weights);
            copyRow(other.kinds, kinds);
            copyRow(other.rhymes, rhymes);
            copyRow(other.purses, purses);
            copyRow(other.belongings, belongings);
            copyRow(other.wishes, wishes);
            wishCount = other.wishCount;
            copyRow(other.lefts, lefts);
            copyRow(other.rights, rights);
            copyRow(other.outcomes, outcomes);
            sightCount = other.sightCount;
        }

        private void joinRhymes(int one, int other) {
            if (!isWord(one) || !isWord(other)) {
                return;
            }
            int joined = rhymes[one] | rhymes[other];
            for (int word = 0; word < WORDS; word++) {
                if (isIn(word, joined)) {
                    rhymes[word] = joined;
                }
            }
        }

        private void leaveRhymes(int leaving) {
            if (!isWord(leaving)) {
                return;
            }
            int alone = 1 << leaving;
            for (int word = 0; word < WORDS; word++) {
                rhymes[word] &= ~alone;
            }
            rhymes[leaving] = alone;
        }

        private int weigh(int set) {
            int sum = 0;
            int left = set;
            for (int word = 0; word < WORDS; word++) {
                if (isIn(word, left)) {
                    sum += heaviestOf(left & rhymes[word]);
                    left &= ~rhymes[word];
                }
            }
            return sum;
        }

        private int heaviestOf(int set) {
            int heaviest = 0;
            for (int word = 0; word < WORDS; word++) {
                if (isIn(word, set)) {
                    heaviest = Math.max(heaviest, weights[word]);
                }
            }
            return heaviest;
        }

        private int priceOf(int set) {
            int sum = 0;
            for (int word = 0; word < WORDS; word++) {
                if (isIn(word, set)) {
                    sum += weights[word];
                }
            }
            return sum;
        }

        private int ofKind(int kind) {
            int set = 0;
            for (int word = 0; word < WORDS; word++) {
                if (kinds[word] == kind) {
                    set |= 1 << word;
                }
            }
            return set;
        }

        private int countKind(int set, int kind) {
            return Integer.bitCount(set & ofKind(kind));
        }

        private int heldBy(int who) {
            int held = 0;
            for (int speaker = 0; speaker < SPEAKERS; speaker++) {
                if (isIn(speaker, who)) {
                    held |= belongings[speaker];
                }
            }
            return held;
        }

        private int countBelongings() {
            int count = 0;
            for (int speaker = 0; speaker < SPEAKERS; speaker++) {
                count += Integer.bitCount(belongings[speaker]);
            }
            return count;
        }

        /** Whether there is a sentence of n words of the set, none twice. */
        private boolean canSayOnce(int set, int n) {
            int things = countKind(set, THING);
            int sorts = countKind(set, SORT);
            if (n < 2 || things < 1 || countKind(set, DEED) < 1) {
                return false;
            }
            return sorts >= n - 2 || n >= 3 && things >= 2 && sorts >= n - 3;
        }

        private boolean grantsAll(int set) {
            for (int wish = 0; wish < wishCount && wish < MOST_WISHES; wish++) {
                if ((wishes[wish] & set) == 0) {
                    return false;
                }
            }
            return true;
        }

        private int suspects() {
            int set = ALL_WORDS;
            for (int sight = 0; sight < sightCount && sight < MOST_SIGHTS; sight++) {
                if (outcomes[sight] == LEFT_LIGHTER) {
                    set &= lefts[sight];
                } else if (outcomes[sight] == RIGHT_LIGHTER) {
                    set &= rights[sight];
                } else {
                    set &= ~(lefts[sight] | rights[sight]);
                }
            }
            return set;
        }

        /** Does an act if it can be, and tells why not otherwise; other matters to GIVE alone. */
        private int perform(int act, int speaker, int word, int other) {
            if (!isSpeaker(speaker) || !isSpeaker(other) || !isWord(word)) {
                return HAS_IT_NOT;
            }
            switch (act) {
                case BUY:
                    return buy(speaker, word);
                case HAND_IN:
                    return handIn(speaker, word);
                case SPEAK:
                    return speak(speaker, word);
                default:
                    return give(speaker, word, other);
            }
        }

        private int buy(int speaker, int word) {
            if (isIn(word, belongings[speaker])) {
                return HAS_IT;
            }
            if (purses[speaker] < weights[word]) {
                return TOO_POOR;
            }
            purses[speaker] -= weights[word];
            belongings[speaker] |= 1 << word;
            return FINE;
        }

        private int handIn(int speaker, int word) {
            if (!isIn(word, belongings[speaker])) {
                return HAS_IT_NOT;
            }
            int purse = purses[speaker] + weights[word] / 2;
            if (purse > MOST_PURSE) {
                return TOO_RICH;
            }
            purses[speaker] = purse;
            belongings[speaker] &= ~(1 << word);
            return FINE;
        }

        private int speak(int speaker, int word) {
            if (!isIn(word, belongings[speaker])) {
                return HAS_IT_NOT;
            }
            weights[word] = Math.max(0, weights[word] - 1);
            return FINE;
        }

        private int give(int speaker, int word, int other) {
            if (isIn(word, belongings[other])) {
                return HAS_IT;
            }
            if (!isIn(word, belongings[speaker])) {
                return HAS_IT_NOT;
            }
            belongings[speaker] &= ~(1 << word);
            belongings[other] |= 1 << word;
            return FINE;
        }

        private void liveYear(int seed, int acts) {
            int x = seed;
            for (int act = 0; act < acts; act++) {
                x = (75 * x + 74) % 65537;
                perform(drawnAct(x / 48 % 6), x % 4, x / 4 % 12, x / 288 % 4);
            }
        }

        private static int drawnAct(int draw) {
            if (draw <= 1) {
                return BUY;
            }
            if (draw <= 3) {
                return SPEAK;
            }
            return draw == 4 ? HAND_IN : GIVE;
        }
    }

    /** The words spoken since the last sentence, as far as they may still become one. */
    private static final class Row {
        private static final int AHEAD = 0, FIRST_THING = 1, DONE_DEED = 2, MORE_SORTS = 3, LAST_THING = 4, BROKEN = 5;

        private int stage = AHEAD;
        private int length = 0;

        private void begin() {
            stage = AHEAD;
            length = 0;
        }

        private void add(int kind) {
            stage = stageBehind(kind);
            length++;
        }

        private boolean isSentence() {
            return stage == DONE_DEED || stage == LAST_THING;
        }

        private int stageBehind(int kind) {
            switch (stage) {
                case AHEAD:
                    if (kind == SORT) {
                        return AHEAD;
                    }
                    return kind == THING ? FIRST_THING : BROKEN;
                case FIRST_THING:
                    return kind == DEED ? DONE_DEED : BROKEN;
                case DONE_DEED:
                case MORE_SORTS:
                    if (kind == SORT) {
                        return MORE_SORTS;
                    }
                    return kind == THING ? LAST_THING : BROKEN;
                default:
                    return BROKEN;
            }
        }
    }

    /** The grammar of the pad: takes sign by sign and holds the act that they tell. */
    private static final class ActReader {
        private static final int NEW_ACT = 0, MARK_OR_WORD = 1, OTHER = 2, ONLY_WORD = 3;

        private int awaited = NEW_ACT;
        private int act = SPEAK;
        private int speaker = 0;
        private int word = 0;
        private int other = 0;

        private void begin() {
            awaited = NEW_ACT;
        }

        private boolean isBetweenActs() {
            return awaited == NEW_ACT;
        }

        /** Whether the sign can stand there. */
        private boolean take(int sign) {
            switch (awaited) {
                case NEW_ACT:
                    return takeDot(sign) || takeSpeaker(sign);
                case MARK_OR_WORD:
                    return takeMark(sign) || takeWord(sign);
                case OTHER:
                    return takeOther(sign);
                default:
                    return takeWord(sign);
            }
        }

        private boolean takeDot(int sign) {
            if (sign != '.') {
                return false;
            }
            act = END_SENTENCE;
            return true;
        }

        private boolean takeSpeaker(int sign) {
            if (!isSpeaker(sign - 'A')) {
                return false;
            }
            speaker = sign - 'A';
            act = SPEAK;
            awaited = MARK_OR_WORD;
            return true;
        }

        private boolean takeMark(int sign) {
            switch (sign) {
                case '+':
                    act = BUY;
                    awaited = ONLY_WORD;
                    return true;
                case '-':
                    act = HAND_IN;
                    awaited = ONLY_WORD;
                    return true;
                case '>':
                    act = GIVE;
                    awaited = OTHER;
                    return true;
                default:
                    return false;
            }
        }

        private boolean takeOther(int sign) {
            if (!isSpeaker(sign - 'A')) {
                return false;
            }
            other = sign - 'A';
            awaited = ONLY_WORD;
            return true;
        }

        private boolean takeWord(int sign) {
            if (!isWord(sign - 'a')) {
                return false;
            }
            word = sign - 'a';
            awaited = NEW_ACT;
            return true;
        }
    }

    /** What the pad's text comes to, tried out on a copy of the shop. */
    private static final class Days {
        private final Shop shop = new Shop();
        private final ActReader reader = new ActReader();
        private final Row row = new Row();
        private int faultPlace = 0;
        private int acts = 0;
        private int badAct = 0;
        private int why = FINE;
        private int sentences = 0;
        private int spoken = 0;
        private int heaviest = NONE;
        private int heaviestWeight = -1;

        /** NO if there is a fault, STATE if some act can not be, else FINE. */
        private int readAll(int[] signs, int count, Shop from) {
            begin(from);
            for (int place = 0; place < count && place < signs.length; place++) {
                if (!reader.take(signs[place])) {
                    faultPlace = place;
                    return NO;
                }
                if (reader.isBetweenActs()) {
                    doAct();
                }
            }
            if (!reader.isBetweenActs()) {
                faultPlace = count;
                return NO;
            }
            return why == FINE ? FINE : STATE;
        }

        private void begin(Shop from) {
            shop.copyFrom(from);
            reader.begin();
            row.begin();
            acts = 0;
            why = FINE;
            sentences = 0;
            spoken = 0;
            heaviest = NONE;
            heaviestWeight = -1;
        }

        // Behind an act that can not be no act is tried any more, but faults must still be found.
        private void doAct() {
            if (why == FINE) {
                why = reader.act == END_SENTENCE ? endSentence() : doWordAct(reader.word);
                if (why != FINE) {
                    badAct = acts;
                }
            }
            acts++;
        }

        private int endSentence() {
            if (!row.isSentence()) {
                return NO_SENTENCE;
            }
            sentences++;
            row.begin();
            return FINE;
        }

        private int doWordAct(int word) {
            if (!isWord(word)) {
                return HAS_IT_NOT;
            }
            int ahead = shop.weights[word];
            int reason = shop.perform(reader.act, reader.speaker, word, reader.other);
            if (reason == FINE && reader.act == SPEAK) {
                noteSpoken(word, ahead);
                row.add(shop.kinds[word]);
            }
            return reason;
        }

        private void noteSpoken(int word, int weight) {
            if (weight > heaviestWeight) {
                heaviest = word;
                heaviestWeight = weight;
            }
            spoken++;
        }
    }
}
