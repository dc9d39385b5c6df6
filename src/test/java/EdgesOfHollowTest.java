import java.math.BigInteger;

/** Promises 21 to 27 at their edges; each function stands for the document's sentence that is quoted above it. */
public final class EdgesOfHollowTest {
    private static final int OUTSIDE = -2, FULL = -4, NONE = -6;
    private static final long REFUSED = -1000000000000000002L;
    private static final int MOST_SIGHTS = 6, LEFT = 0, RIGHT = 1, NEITHER = 2;
    private static final int MOST_PRICE = 40, MOST_DAYS = 8, MOST_COST = 20, MOST_TURNS = 99;

    public static void main(String[] args) {
        aSightMore();
        asManyOnBothSides();
        noWordOnBothSides();
        leftRightOrNeither();
        sightsGo();
        wordsThatCanBeIt();
        noneThatCanBeIt();
        howManyAreToBeLaid();
        turns();
        weatherOfAllNumbers();
        pricesAtTheEnds();
        atLastOneMustHandItIn();
        nothingAtLeast();
        ifItIsTheSameItIs();
        inLowestTerms();
        synonymsOfAllNumbers();
        oneLessIfAboveCost();
        behindNoTurnsAndAll();
        theRingIntoWhichPricesCome();
        seedsFromNothingTo9999();
        leftOverBy65537();
        actsFromOneTo99();
        eachIfThatCanBe();
        weightsAndPursesOfAYear();
        nothingIsDoneInFact();
        Check.end();
    }

    // 21: "A SIGHT more: how many"; "SIGHTS, 6 at most"
    private static void aSightMore() {
        WordScales x = new WordScales();
        int[] hows = {NEITHER, LEFT, RIGHT, NEITHER, LEFT, RIGHT};
        for (int sight = 0; sight < MOST_SIGHTS; sight++) {
            Check.due("sight " + sight, x.seen(0, 0, hows[sight]), sight + 1);
            Check.due("sights told", x.told(2), sight + 1);
        }
        Check.due("a seventh", x.seen(1, 2, LEFT), FULL);
        Check.due("a seventh again", x.seen(0, 0, NEITHER), FULL);
        Check.due("the seventh is not told", x.told(2), MOST_SIGHTS);
        WordScales y = new WordScales();
        for (int sight = 1; sight < MOST_SIGHTS; sight++) {
            y.seen(1, 2, NEITHER);
        }
        y.seen(4, 8, NEITHER);
        y.seen(16, 32, NEITHER);
        Check.due("the sixth is seen, the seventh is not", y.hollow(), 4095 - 15);
    }

    private static void laid(int left, int right, int want) {
        Check.due("seen(" + left + ", " + right + ", 2)", new WordScales().seen(left, right, NEITHER), want);
    }

    // 21: "another one, of as many"; "sets 0 to 4095, not as many"
    private static void asManyOnBothSides() {
        laid(0, 0, 1);
        laid(1, 2048, 1);
        laid(2048, 1, 1);
        laid(63, 4032, 1);
        laid(4032, 63, 1);
        laid(0, 1, OUTSIDE);
        laid(1, 0, OUTSIDE);
        laid(4095, 0, OUTSIDE);
        laid(0, 4095, OUTSIDE);
        laid(31, 4032, OUTSIDE);
        laid(63, 1984, OUTSIDE);
        laid(4096, 0, OUTSIDE);
        laid(4096, 8192, OUTSIDE);
        laid(0, 4096, OUTSIDE);
        laid(1, 4096, OUTSIDE);
        laid(4096, 1, OUTSIDE);
        laid(-1, 0, OUTSIDE);
        laid(0, -1, OUTSIDE);
    }

    // 21: "some WORD on both sides"
    private static void noWordOnBothSides() {
        for (int word = 0; word < 12; word++) {
            laid(1 << word, 1 << word, OUTSIDE);
            laid(1 << word, 1 << (word + 1) % 12, 1);
        }
        laid(3, 6, OUTSIDE);
        laid(2049, 2050, OUTSIDE);
        laid(63, 126, OUTSIDE);
        laid(4095, 4095, OUTSIDE);
    }

    // 21: "the left was lighter (0), the right (1), or neither (2)"
    private static void leftRightOrNeither() {
        int[] behind = {3, 12, 4080};
        for (int how = 0; how <= 2; how++) {
            WordScales x = new WordScales();
            Check.due("seen as " + how, x.seen(3, 12, how), 1);
            Check.due("hollow behind " + how, x.hollow(), behind[how]);
        }
        Check.due("seen as -1", new WordScales().seen(3, 12, -1), OUTSIDE);
        Check.due("seen as 3", new WordScales().seen(3, 12, 3), OUTSIDE);
    }

    // 22: "SIGHTS go: how many there were"
    private static void sightsGo() {
        WordScales x = new WordScales();
        Check.due("none go", x.forget(), 0);
        for (int sight = 0; sight <= MOST_SIGHTS; sight++) {
            x.seen(1, 2, LEFT);
        }
        Check.due("all six go", x.forget(), MOST_SIGHTS);
        Check.due("none are left to go", x.forget(), 0);
        Check.due("none are told", x.told(2), 0);
        Check.due("all can be it again", x.hollow(), 4095);
        Check.due("there is room again", x.seen(4, 8, RIGHT), 1);
        Check.due("the old ones are not behind it", x.hollow(), 8);
        Check.due("one goes", x.forget(), 1);
    }

    // 23: "WORDS that can be it by all SIGHTS": all, one
    private static void wordsThatCanBeIt() {
        WordScales x = new WordScales();
        Check.due("no sights: all", x.hollow(), 4095);
        x.seen(0, 0, NEITHER);
        Check.due("nothing on both sides: all", x.hollow(), 4095);
        x.seen(2048, 1, LEFT);
        Check.due("the last one", x.hollow(), 2048);
        x.seen(1024, 2048, RIGHT);
        Check.due("the last one, seen twice", x.hollow(), 2048);
        x.seen(1, 2, NEITHER);
        Check.due("the last one lay on no side", x.hollow(), 2048);
        x.forget();
        x.seen(63, 4032, RIGHT);
        Check.due("six on the right", x.hollow(), 4032);
        x.word(0, 0, 0);
        x.rhyme(0, 1);
        Check.due("weights and rhymes are no matter", x.hollow(), 4032);
    }

    // 23: "WORDS that can be it": none
    private static void noneThatCanBeIt() {
        WordScales x = new WordScales();
        x.seen(0, 0, LEFT);
        Check.due("nothing was lighter than nothing, left", x.hollow(), 0);
        x.forget();
        x.seen(0, 0, RIGHT);
        Check.due("nothing was lighter than nothing, right", x.hollow(), 0);
        x.forget();
        x.seen(63, 4032, NEITHER);
        Check.due("all lay there, and neither was lighter", x.hollow(), 0);
        x.forget();
        x.seen(1, 2, LEFT);
        x.seen(1, 2, RIGHT);
        Check.due("now the one, now the other", x.hollow(), 0);
        x.forget();
        x.seen(1, 2, LEFT);
        x.seen(1, 2, NEITHER);
        Check.due("now the one, now neither", x.hollow(), 0);
    }

    /** Sights that leave so many, if any can: there are none that leave eleven. */
    private static WordScales suspecting(int number) {
        int[][] pairs = {{63, 4032, NEITHER}, {1, 2, LEFT}, {3, 12, LEFT}, {7, 56, LEFT}, {15, 240, LEFT},
            {31, 992, LEFT}, {63, 4032, LEFT}, {}, {3, 12, NEITHER}, {}, {1, 2, NEITHER}};
        WordScales x = new WordScales();
        if (number == 7 || number == 9) {
            x.seen(1, 2, NEITHER);
            x.seen(1, 4, NEITHER);
        }
        if (number == 7) {
            x.seen(8, 16, NEITHER);
        }
        if (number < pairs.length && pairs[number].length > 0) {
            x.seen(pairs[number][0], pairs[number][1], pairs[number][2]);
        }
        return x;
    }

    // 24: "fewest are left at the most: the least such number; how many are left; NONE, if there is none"
    private static void howManyAreToBeLaid() {
        int[] each = {NONE, 0, 1, 1, 1, 2, 2, 2, 3, 3, 3, 0, 4};
        int[] left = {NONE, 1, 1, 1, 2, 2, 2, 3, 3, 3, 4, 0, 4};
        for (int number = 0; number <= 12; number++) {
            if (number != 11) {
                WordScales x = suspecting(number);
                Check.due("that can be hollow", Integer.bitCount(x.hollow()), number);
                Check.due("to be laid of " + number, x.lay(0), each[number]);
                Check.due("left of " + number, x.lay(1), left[number]);
                Check.due("laid by another number of " + number, x.lay(3), OUTSIDE);
                Check.due("laid by a number too small of " + number, x.lay(-1), OUTSIDE);
            }
        }
    }

    // 24: "the fewest weighings that always find it (0: there is one, or none)"
    private static void turns() {
        int[] turns = {0, 0, 1, 1, 2, 2, 2, 2, 2, 2, 3, 0, 3};
        for (int number = 0; number <= 12; number++) {
            if (number != 11) {
                Check.due("turns of " + number, suspecting(number).lay(2), turns[number]);
            }
        }
        WordScales x = suspecting(1);
        x.seen(1, 2, RIGHT);
        Check.due("one, and then none: turns", x.lay(2), 0);
        Check.due("one, and then none: to be laid", x.lay(0), NONE);
        Check.due("one, and then none: left", x.lay(1), NONE);
    }

    // 25: "v (0 to 40)", "m days (0 to 8)", "t tenths (0 to 10)": all of them
    private static void weatherOfAllNumbers() {
        Model y = new Model();
        for (int m = 0; m <= MOST_DAYS; m++) {
            for (int t = 0; t <= 10; t++) {
                WordScales x = new WordScales();
                for (int v = 0; v <= MOST_PRICE; v++) {
                    String about = "weather(" + v + ", " + m + ", " + t;
                    for (int which = 0; which < 4; which++) {
                        int what = which / 2;
                        int part = which % 2;
                        String call = about + ", " + what + ", " + part + ")";
                        Check.due(call, x.weather(v, m, t, what, part), y.weather(v, m, t, what, part));
                    }
                }
            }
        }
    }

    private static void weather(int v, int m, int t, long upper, long lower, int atOnce) {
        WordScales x = new WordScales();
        String about = "weather(" + v + ", " + m + ", " + t;
        Check.due(about + ", 0, 0)", x.weather(v, m, t, 0, 0), upper);
        Check.due(about + ", 0, 1)", x.weather(v, m, t, 0, 1), lower);
        Check.due(about + ", 1, 0)", x.weather(v, m, t, 1, 0), atOnce);
        Check.due(about + ", 1, 1)", x.weather(v, m, t, 1, 1), atOnce);
    }

    private static void refusedWeather(int v, int m, int t, int what, int part) {
        String about = "weather(" + v + ", " + m + ", " + t + ", " + what + ", " + part + ")";
        Check.due(about, new WordScales().weather(v, m, t, what, part), REFUSED);
    }

    // 25: prices, days and tenths that are just inside, and just outside
    private static void pricesAtTheEnds() {
        weather(0, 0, 0, 0, 1, 1);
        weather(40, 0, 0, 40, 1, 1);
        weather(40, 8, 0, 40, 1, 1);
        weather(40, 8, 10, 48, 1, 0);
        weather(0, 8, 10, 8, 1, 0);
        weather(39, 1, 10, 40, 1, 0);
        refusedWeather(-1, 0, 0, 0, 0);
        refusedWeather(41, 0, 0, 0, 0);
        refusedWeather(0, -1, 0, 0, 0);
        refusedWeather(0, 9, 0, 0, 0);
        refusedWeather(0, 0, -1, 0, 0);
        refusedWeather(0, 0, 11, 0, 0);
        refusedWeather(0, 0, 0, -1, 0);
        refusedWeather(0, 0, 0, 2, 0);
        refusedWeather(0, 0, 0, 0, -1);
        refusedWeather(0, 0, 0, 0, 2);
        refusedWeather(0, 0, 0, 1, -1);
        refusedWeather(0, 0, 0, 1, 2);
    }

    // 25: "at last one must hand it in"
    private static void atLastOneMustHandItIn() {
        for (int v = 0; v <= MOST_PRICE; v += 20) {
            weather(v, 0, 5, v, 1, 1);
            weather(v, 0, 10, v, 1, 1);
        }
        weather(1, 1, 10, 2, 1, 0);
        weather(1, 1, 9, 9, 5, 0);
    }

    // 25: "else 1 less (0 at least)"
    private static void nothingAtLeast() {
        weather(0, 1, 0, 0, 1, 1);
        weather(0, 8, 0, 0, 1, 1);
        weather(0, 1, 1, 1, 10, 0);
        weather(0, 2, 1, 19, 100, 0);
        weather(1, 1, 0, 1, 1, 1);
        weather(1, 8, 0, 1, 1, 1);
    }

    // 25: "(1, 0; if it is the same, it is)": at five tenths all prices bring the same until they may come to nothing
    private static void ifItIsTheSameItIs() {
        weather(1, 1, 5, 1, 1, 1);
        weather(8, 8, 5, 8, 1, 1);
        weather(40, 8, 5, 40, 1, 1);
        weather(1, 2, 5, 5, 4, 0);
        weather(2, 2, 5, 2, 1, 1);
        weather(2, 3, 5, 17, 8, 0);
        Check.due("just not the same", new WordScales().weather(7, 8, 5, 1, 0), 0);
        Check.due("just not the same: upper", new WordScales().weather(7, 8, 5, 0, 0), 1793);
        Check.due("just not the same: lower", new WordScales().weather(7, 8, 5, 0, 1), 256);
        weather(40, 1, 4, 40, 1, 1);
        weather(40, 1, 6, 201, 5, 0);
    }

    // "Fractions are told in lowest terms by part"
    private static void inLowestTerms() {
        boolean longest = false;
        for (int m = 0; m <= MOST_DAYS; m++) {
            for (int t = 0; t <= 10; t++) {
                WordScales x = new WordScales();
                for (int v = 0; v <= MOST_PRICE; v++) {
                    long upper = x.weather(v, m, t, 0, 0);
                    long lower = x.weather(v, m, t, 0, 1);
                    long common = BigInteger.valueOf(upper).gcd(BigInteger.valueOf(lower)).longValueExact();
                    Check.due("lowest terms of " + upper + " and " + lower, common, 1);
                    longest |= lower == 100000000;
                }
            }
        }
        Check.due("eight places can be due", longest ? 1 : 0, 1);
        weather(0, 8, 0, 0, 1, 1);
    }

    // 26: "v (0 to 40)", "COST c (0 to 20)", "TOP p (c less than p, 40 at most)", "n turns (0 to 99)": all of them
    private static void synonymsOfAllNumbers() {
        for (int c = -1; c <= MOST_COST + 1; c++) {
            for (int p = -1; p <= MOST_PRICE + 1; p++) {
                for (int v = -1; v <= MOST_PRICE + 1; v++) {
                    boolean told = c >= 0 && c <= MOST_COST && p > c && p <= MOST_PRICE && v >= 0 && v <= MOST_PRICE;
                    allTurns(v, c, p, told);
                }
            }
        }
    }

    private static void allTurns(int v, int c, int p, boolean told) {
        WordScales x = new WordScales();
        int price = v;
        for (int n = 0; n <= MOST_TURNS; n++) {
            int got = x.synonyms(v, c, p, n);
            if (got != (told ? price : OUTSIDE)) {
                Check.due("synonyms(" + v + ", " + c + ", " + p + ", " + n + ")", got, told ? price : OUTSIDE);
            }
            price = price - 1 > c ? price - 1 : p;
        }
        // Behind so many turns prices go round: how many turns to the same one again is the ring.
        int ring = 1;
        for (int next = price - 1 > c ? price - 1 : p; next != price && ring < 50; ring++) {
            next = next - 1 > c ? next - 1 : p;
        }
        Check.due("ring of " + v + ", " + c + ", " + p, x.synonyms(v, c, p, -1), told ? ring : OUTSIDE);
        Check.due("turns too few", x.synonyms(v, c, p, -2), OUTSIDE);
        Check.due("turns too many", x.synonyms(v, c, p, 100), OUTSIDE);
    }

    // 26: "each 1 less than the other's, if 1 less is above COST c, else TOP p"
    private static void oneLessIfAboveCost() {
        WordScales x = new WordScales();
        Check.due("two above cost: one less", x.synonyms(12, 10, 30, 1), 11);
        Check.due("one above cost: top", x.synonyms(11, 10, 30, 1), 30);
        Check.due("at cost: top", x.synonyms(10, 10, 30, 1), 30);
        Check.due("below cost: top", x.synonyms(9, 10, 30, 1), 30);
        Check.due("nothing: top", x.synonyms(0, 10, 30, 1), 30);
        Check.due("above top: one less", x.synonyms(40, 10, 30, 1), 39);
        Check.due("at top: one less", x.synonyms(30, 10, 30, 1), 29);
        Check.due("no cost, at 1: top", x.synonyms(1, 0, 30, 1), 30);
        Check.due("no cost, at 2: 1", x.synonyms(2, 0, 30, 1), 1);
        Check.due("no cost, at nothing: top", x.synonyms(0, 0, 30, 1), 30);
        Check.due("top one above cost, from there", x.synonyms(21, 20, 21, 1), 21);
        Check.due("top two above cost, from there", x.synonyms(22, 20, 22, 1), 21);
        Check.due("top two above cost, round", x.synonyms(22, 20, 22, 2), 22);
    }

    // 26: "the price behind n turns (0 to 99)"
    private static void behindNoTurnsAndAll() {
        WordScales x = new WordScales();
        Check.due("no turns: nothing", x.synonyms(0, 20, 40, 0), 0);
        Check.due("no turns: the most", x.synonyms(40, 0, 1, 0), 40);
        Check.due("39 turns down from the most", x.synonyms(40, 0, 1, 39), 1);
        Check.due("all turns in the shortest ring", x.synonyms(40, 0, 1, 99), 1);
        Check.due("all turns in the longest ring", x.synonyms(40, 0, 40, 99), 40 - 19);
        Check.due("once round the longest ring", x.synonyms(40, 0, 40, 40), 40);
        Check.due("once round, less one", x.synonyms(40, 0, 40, 39), 1);
        Check.due("a turn too many", x.synonyms(40, 0, 40, 100), OUTSIDE);
    }

    // 26: "the length of the ring into which prices come" (n = -1)
    private static void theRingIntoWhichPricesCome() {
        WordScales x = new WordScales();
        Check.due("the shortest", x.synonyms(0, 0, 1, -1), 1);
        Check.due("the shortest, dear", x.synonyms(0, 20, 21, -1), 1);
        Check.due("the longest", x.synonyms(0, 0, 40, -1), 40);
        Check.due("from above top", x.synonyms(40, 3, 7, -1), 4);
        Check.due("from below cost", x.synonyms(0, 3, 7, -1), 4);
        Check.due("top as cost", x.synonyms(0, 7, 7, -1), OUTSIDE);
        Check.due("cost wraps round", x.synonyms(0, Integer.MAX_VALUE, 7, -1), OUTSIDE);
    }

    // 27: "A YEAR by a seed (0 to 9999)": all of them
    private static void seedsFromNothingTo9999() {
        for (int hundred = 0; hundred < 10000; hundred += 100) {
            WordScales x = new WordScales();
            Model y = new Model();
            for (int speaker = 0; speaker < 4; speaker++) {
                int[] purses = {999, 5, 0, 994};
                int has = hundred * 37 + speaker * 1365 & 4095;
                Check.due("purse", x.speaker(speaker, purses[speaker], has), y.speaker(speaker, purses[speaker], has));
            }
            for (int word = 0; word < 12; word++) {
                Check.due("weight", x.word(word, word * 9, 0), y.word(word, word * 9, 0));
            }
            for (int seed = hundred; seed < hundred + 100; seed++) {
                int what = seed % 3;
                String about = "year(" + seed;
                Check.due(about + ", 1, " + what + ")", x.year(seed, 1, what), y.year(seed, 1, what));
                Check.due(about + ", 99, 0)", x.year(seed, 99, 0), y.year(seed, 99, 0));
                Check.due(about + ", 99, 1)", x.year(seed, 99, 1), y.year(seed, 99, 1));
                Check.due(about + ", 99, 2)", x.year(seed, 99, 2), y.year(seed, 99, 2));
            }
        }
    }

    // 27: "(75 x and 74) left over by 65537"
    private static void leftOverBy65537() {
        WordScales x = new WordScales();
        x.word(3, 33, 0);
        // 872 comes to 65474, which is less: C speaks a. 873 comes to 65549, of which 12 is left: A buys d.
        // 5242 comes to 393224, of which 2 is left: C buys a.
        Check.due("just not left over: he has not what he speaks", x.year(872, 1, 0), 200);
        Check.due("just left over: he buys d", x.year(873, 1, 0), 200 - 33);
        x.speaker(0, 32, 0);
        Check.due("just left over: it is A who buys", x.year(873, 1, 0), 182);
        Check.due("left over more than once: he buys a", x.year(5242, 1, 0), 182 - 10);
        x.speaker(2, 9, 0);
        Check.due("left over more than once: it is C who buys", x.year(5242, 1, 0), 141);
    }

    // 27: "of m ACTS (1 to 99)"
    private static void actsFromOneTo99() {
        WordScales x = new WordScales();
        Check.due("none", x.year(0, 0, 2), OUTSIDE);
        Check.due("one", x.year(0, 1, 2), 1);
        Check.due("99", x.year(0, 99, 2), 13);
        Check.due("a hundred", x.year(0, 100, 2), OUTSIDE);
        Check.due("the first seed", x.year(0, 1, 0), 190);
        Check.due("the last seed", x.year(9999, 1, 0), 190);
        Check.due("a seed too small", x.year(-1, 1, 0), OUTSIDE);
        Check.due("a seed too great", x.year(10000, 1, 0), OUTSIDE);
        Check.due("what is too small", x.year(0, 1, -1), OUTSIDE);
        Check.due("what is too great", x.year(0, 1, 3), OUTSIDE);
    }

    private static WordScales having(int speaker, int purse, int has, int word, int weight) {
        WordScales x = new WordScales();
        x.speaker(speaker, purse, has);
        x.word(word, weight, 0);
        return x;
    }

    // 27: "each if that can be": seed 0: C buys g; 1: B speaks b; 2: A hands in i; 10: A gives C c; 18: A gives A i
    private static void eachIfThatCanBe() {
        Check.due("buys for all he has", having(2, 99, 0, 6, 99).year(0, 1, 0), 150);
        Check.due("has one too little", having(2, 98, 0, 6, 99).year(0, 1, 0), 248);
        Check.due("buys for nothing", having(2, 0, 0, 6, 0).year(0, 1, 2), 1);
        Check.due("has it already", having(2, 99, 64, 6, 10).year(0, 1, 0), 249);
        Check.due("speaks what weighs one", having(1, 0, 2, 1, 1).year(1, 1, 1), 110);
        Check.due("speaks what weighs nothing", having(1, 0, 2, 1, 0).year(1, 1, 1), 110);
        Check.due("speaks what he has not", having(1, 0, 0, 1, 1).year(1, 1, 1), 111);
        Check.due("hands in up to 999", having(0, 998, 256, 8, 3).year(2, 1, 0), 999 + 150);
        Check.due("hands in beyond 999", having(0, 998, 256, 8, 4).year(2, 1, 0), 998 + 150);
        Check.due("hands in beyond 999: keeps it", having(0, 998, 256, 8, 4).year(2, 1, 2), 1);
        Check.due("hands in what he has not", having(0, 0, 0, 8, 4).year(2, 1, 0), 150);
        Check.due("gives what he has not", having(0, 0, 0, 2, 4).year(10, 1, 2), 0);
        Check.due("gives himself what he has", having(0, 0, 256, 8, 4).year(18, 1, 2), 1);
        Check.due("gives himself what he has not", having(0, 0, 0, 8, 4).year(18, 1, 2), 0);
        WordScales x = having(0, 0, 4, 2, 4);
        x.speaker(2, 0, 4);
        Check.due("gives what that one has", x.year(10, 1, 2), 2);
    }

    // 27: "PURSES of all together; WEIGHTS of all WORDS; how many WORDS SPEAKERS have, added": the least and the most
    private static void weightsAndPursesOfAYear() {
        WordScales x = new WordScales();
        for (int speaker = 0; speaker < 4; speaker++) {
            x.speaker(speaker, 999, 4095);
        }
        Check.kinds(x, "tttttttttttt", 99);
        Check.due("all purses full", x.year(0, 1, 0), 3996);
        Check.due("all words heavy", x.year(0, 1, 1), 1188);
        Check.due("all have all", x.year(0, 1, 2), 48);
        Check.due("one word worn", x.year(1, 1, 1), 1187);
        for (int speaker = 0; speaker < 4; speaker++) {
            x.speaker(speaker, 0, 0);
        }
        Check.due("all too poor: purses", x.year(9999, 99, 0), 0);
        Check.due("all too poor: weights", x.year(9999, 99, 1), 1188);
        Check.due("all too poor: words", x.year(9999, 99, 2), 0);
        Check.kinds(x, "tttttttttttt", 0);
        Check.due("all for nothing: purses", x.year(9999, 99, 0), 0);
        Check.due("all for nothing: weights", x.year(9999, 99, 1), 0);
    }

    // 27: "from all as it is"; "Nothing is DONE in fact."
    private static void nothingIsDoneInFact() {
        WordScales x = new WordScales();
        Check.sayAll(x, "A+aAa");
        String before = Check.allTold(x);
        int first = x.year(5, 99, 0);
        Check.due("the same year again", x.year(5, 99, 0), first);
        Check.due("a year that is told otherwise", x.year(5, 99, 1) >= 0 ? 1 : 0, 1);
        Check.same("it is as it was", Check.allTold(x), before);
        Check.due("the pad is as it was", x.behind(0, 0), 40);
        Check.due("the pad is no part of it", x.year(5, 99, 0), first);
        Check.due("the pad is no part of it: weights", x.year(0, 1, 1), 120);
        x.done();
        Check.due("what is done is part of it: weights", x.year(0, 1, 1), 119);
        Check.due("what is done is part of it: purses", x.year(0, 1, 0), 180);
    }
}
