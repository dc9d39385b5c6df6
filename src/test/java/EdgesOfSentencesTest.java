/** Promises 15 to 20 at their edges; each function stands for the document's sentence that is quoted above it. */
public final class EdgesOfSentencesTest {
    private static final int OUTSIDE = -2, FULL = -4, NONE = -6;
    private static final int MOST_WISHES = 8, LONGEST = 8;

    public static void main(String[] args) {
        sentencesOfOneToEightWords();
        asOftenAsOneLikes();
        ofWhatHeHas();
        theMostSentences();
        cheapOfOneToEightWords();
        noneTwice();
        whoBuysWhatHeHasNot();
        hisPurseIsNoMatter();
        cheapestIsLeastAsBits();
        pricesFromNothingTo792();
        poolOfOneToEightWords();
        fewestSpeakers();
        whoHaveTheSame();
        poolIsLeastAsBits();
        whoHaveNoSentence();
        aWishMore();
        wishesGo();
        noWishes();
        aWishOfNoWords();
        fewestWords();
        nineIsLeastAsBits();
        Check.end();
    }

    private static String kinds(int things, int deeds, int sorts) {
        return "t".repeat(things) + "d".repeat(deeds) + "s".repeat(sorts);
    }

    private static WordScales shop(String kinds) {
        WordScales x = new WordScales();
        Check.kinds(x, kinds, 10);
        return x;
    }

    private static long power(int base, int exponent) {
        return exponent < 0 ? 0 : exponent == 0 ? 1 : base * power(base, exponent - 1);
    }

    /** Counted by where the second thing stands: behind so many sorts, or nowhere. */
    private static long rows(int things, int deeds, int sorts, int n) {
        long rows = power(sorts, n - 2) * things * deeds;
        for (int between = 0; between <= n - 3; between++) {
            rows += power(sorts, n - 3 - between) * things * deeds * power(sorts, between) * things;
        }
        return rows;
    }

    // 15: "how many SENTENCES of n WORDS (1 to 8)": for each number of things, deeds, sorts
    private static void sentencesOfOneToEightWords() {
        for (int things = 0; things <= 12; things++) {
            for (int deeds = 0; things + deeds <= 12; deeds++) {
                for (int sorts = 0; things + deeds + sorts <= 12; sorts++) {
                    WordScales x = shop(kinds(things, deeds, sorts));
                    x.speaker(3, 0, (1 << things + deeds + sorts) - 1);
                    String about = things + " things, " + deeds + " deeds, " + sorts + " sorts in ";
                    for (int n = 1; n <= LONGEST; n++) {
                        Check.due(about + n, x.says(3, n), rows(things, deeds, sorts, n));
                    }
                    Check.due(about + 0, x.says(3, 0), OUTSIDE);
                    Check.due(about + 9, x.says(3, 9), OUTSIDE);
                }
            }
        }
    }

    // 15: "(a WORD as often as one likes)"
    private static void asOftenAsOneLikes() {
        WordScales x = shop("td");
        x.speaker(0, 0, 3);
        Check.due("td", x.says(0, 2), 1);
        Check.due("tdt, the thing twice", x.says(0, 3), 1);
        Check.due("no sorts, so none of four", x.says(0, 4), 0);
        x = shop("tds");
        x.speaker(0, 0, 7);
        Check.due("sorts up to six times", x.says(0, 8), 7);
    }

    // 15: "of what he HAS": nothing, and what another one has
    private static void ofWhatHeHas() {
        WordScales x = shop("tds");
        x.speaker(1, 999, 7);
        for (int n = 1; n <= LONGEST; n++) {
            Check.due("who has nothing says nothing of " + n, x.says(0, n), 0);
        }
        x.speaker(0, 0, 1);
        x.speaker(2, 0, 2);
        x.speaker(3, 0, 4);
        Check.due("a thing alone", x.says(0, 2), 0);
        Check.due("a deed alone", x.says(2, 2), 0);
        Check.due("a sort alone", x.says(3, 2), 0);
        Check.due("all of them", x.says(1, 2), 1);
    }

    // 15: the greatest answer, and with all WORDS of one KIND the least
    private static void theMostSentences() {
        long most = 0;
        for (int things = 0; things <= 12; things++) {
            for (int deeds = 0; things + deeds <= 12; deeds++) {
                WordScales x = shop(kinds(things, deeds, 12 - things - deeds));
                x.speaker(0, 0, 4095);
                most = Math.max(most, x.says(0, 8));
            }
        }
        Check.due("the most of eight", most, 2621440);
        String[] alike = {kinds(12, 0, 0), kinds(0, 12, 0), kinds(0, 0, 12)};
        for (String kinds : alike) {
            WordScales x = shop(kinds);
            x.speaker(0, 0, 4095);
            Check.due("of one kind: says", x.says(0, 2) + x.says(0, 3) + x.says(0, 8), 0);
            Check.due("of one kind: cheap", x.cheap(0, 2, 0), NONE);
            Check.due("of one kind: pool", x.pool(2, 0), NONE);
        }
    }

    private static boolean canBe(int things, int deeds, int sorts, int n) {
        boolean withOneThing = things >= 1 && n >= 2 && sorts >= n - 2;
        boolean withTwo = things >= 2 && n >= 3 && sorts >= n - 3;
        return deeds >= 1 && (withOneThing || withTwo);
    }

    // 16: "the cheapest SENTENCE of n WORDS (1 to 8), none twice": for each number of things, deeds, sorts
    private static void cheapOfOneToEightWords() {
        for (int things = 0; things <= 12; things++) {
            for (int deeds = 0; things + deeds <= 12; deeds++) {
                int sorts = 12 - things - deeds;
                WordScales x = shop(kinds(things, deeds, sorts));
                String about = things + " things, " + deeds + " deeds, " + sorts + " sorts in ";
                for (int n = 1; n <= LONGEST; n++) {
                    boolean can = canBe(things, deeds, sorts, n);
                    Check.due(about + n + ": much", x.cheap(2, n, 0), can ? 10 * n : NONE);
                    int which = x.cheap(2, n, 1);
                    Check.due(about + n + ": which", can ? Integer.bitCount(which) : which, can ? n : NONE);
                }
                Check.due(about + 0, x.cheap(2, 0, 0), OUTSIDE);
                Check.due(about + 9, x.cheap(2, 9, 0), OUTSIDE);
            }
        }
    }

    // 16: "none twice": what SAYS has and CHEAP has not
    private static void noneTwice() {
        WordScales x = shop("tddddddddddd");
        x.speaker(0, 0, 3);
        Check.due("tdt with one thing said", x.says(0, 3), 1);
        Check.due("tdt with one thing bought", x.cheap(0, 3, 0), NONE);
        Check.due("tdt with one thing pooled", x.pool(3, 0), NONE);
        x = shop("tdsddddddddd");
        Check.due("std with one sort", x.cheap(0, 3, 1), 7);
        Check.due("sstd with one sort", x.cheap(0, 4, 1), NONE);
        x = shop("ttdsdddddddd");
        Check.due("stdt with one sort and two things", x.cheap(0, 4, 1), 15);
        Check.due("sstdt with one sort and two things", x.cheap(0, 5, 1), NONE);
    }

    // 16: "for a SPEAKER who buys what he has not"
    private static void whoBuysWhatHeHasNot() {
        WordScales x = shop("ttddss");
        x.speaker(0, 0, 63);
        x.speaker(1, 0, Check.set("bdf"));
        x.speaker(2, 0, Check.set("b"));
        Check.due("has all: pays nothing", x.cheap(0, 5, 0), 0);
        Check.due("has all: least as bits", x.cheap(0, 3, 1), Check.set("abc"));
        Check.due("has three: pays nothing", x.cheap(1, 3, 0), 0);
        Check.due("has three: these", x.cheap(1, 3, 1), Check.set("bdf"));
        Check.due("has three: pays for two more", x.cheap(1, 5, 0), 20);
        Check.due("has one: pays for one more", x.cheap(2, 2, 0), 10);
        Check.due("has one: with it", x.cheap(2, 2, 1), Check.set("bc"));
        Check.due("has none: pays for all", x.cheap(3, 2, 0), 20);
        x.word(1, 99, 0);
        x.word(3, 99, 1);
        Check.due("what he has is no matter, however heavy", x.cheap(1, 2, 1), Check.set("bd"));
        Check.due("to another one it is", x.cheap(3, 2, 1), Check.set("ac"));
    }

    // 16: "(his PURSE is no matter)"; RHYMES and the PAD are none either
    private static void hisPurseIsNoMatter() {
        WordScales x = shop("tdssssssssss");
        for (int purse = 0; purse <= 999; purse += 999) {
            x.speaker(0, purse, 0);
            Check.due("with " + purse + ": much", x.cheap(0, 8, 0), 80);
            Check.due("with " + purse + ": which", x.cheap(0, 8, 1), 255);
        }
        for (int word = 1; word < 12; word++) {
            x.rhyme(0, word);
        }
        Check.due("who rhyme are bought one by one", x.cheap(0, 8, 0), 80);
        Check.sayAll(x, "A+a");
        Check.due("what is not done is not bought", x.cheap(0, 8, 0), 80);
        x.done();
        Check.due("what is done is bought", x.cheap(0, 8, 0), 70);
    }

    // 16: "which WORDS, least as bits"
    private static void cheapestIsLeastAsBits() {
        WordScales x = shop("dtsdtsdtsdts");
        Check.due("two of twelve", x.cheap(0, 2, 1), Check.set("ab"));
        Check.due("three: a sort or a thing", x.cheap(0, 3, 1), Check.set("abc"));
        Check.due("four", x.cheap(0, 4, 1), Check.set("abce"));
        x.word(2, 11, 2);
        Check.due("three: the cheaper thing, not the sort", x.cheap(0, 3, 1), Check.set("abe"));
        x.word(11, 0, 2);
        Check.due("three: cheapest goes ahead of least", x.cheap(0, 3, 1), Check.set("abl"));
        x.word(4, 0, 0);
        Check.due("three: the least of two", x.cheap(0, 3, 1), Check.set("ael"));
        x.speaker(0, 0, Check.set("jkl"));
        Check.due("three: what he has goes ahead of least", x.cheap(0, 3, 1), Check.set("ejk"));
    }

    // 16: "how much": nothing at least, eight times 99 at most
    private static void pricesFromNothingTo792() {
        WordScales x = new WordScales();
        Check.kinds(x, "tdssssssssss", 0);
        Check.due("nothing, though he must buy", x.cheap(0, 8, 0), 0);
        Check.due("nothing, the least as bits", x.cheap(0, 8, 1), 255);
        Check.kinds(x, "tdssssssssss", 99);
        Check.due("the most", x.cheap(0, 8, 0), 792);
        x.speaker(0, 0, 4095);
        Check.due("has all", x.cheap(0, 8, 0), 0);
    }

    // 17: "a SENTENCE of n WORDS (1 to 8), none twice": for each number of things, deeds, sorts
    private static void poolOfOneToEightWords() {
        for (int things = 0; things <= 12; things++) {
            for (int deeds = 0; things + deeds <= 12; deeds++) {
                for (int sorts = 0; things + deeds + sorts <= 12; sorts++) {
                    WordScales x = shop(kinds(things, deeds, sorts));
                    x.speaker(3, 0, (1 << things + deeds + sorts) - 1);
                    String about = things + " things, " + deeds + " deeds, " + sorts + " sorts in ";
                    for (int n = 1; n <= LONGEST; n++) {
                        boolean can = canBe(things, deeds, sorts, n);
                        Check.due(about + n + ": pooled by how many", x.pool(n, 0), can ? 1 : NONE);
                        Check.due(about + n + ": pooled by whom", x.pool(n, 1), can ? 8 : NONE);
                    }
                    Check.due(about + 0, x.pool(0, 0), OUTSIDE);
                    Check.due(about + 9, x.pool(9, 0), OUTSIDE);
                }
            }
        }
    }

    private static void pooled(String about, WordScales x, int n, int many, int who) {
        Check.due(about + ": how many", x.pool(n, 0), many);
        Check.due(about + ": who", x.pool(n, 1), who);
    }

    // 17: "the fewest SPEAKERS who together HAVE": one, and all four
    private static void fewestSpeakers() {
        WordScales x = shop("tdss");
        for (int speaker = 0; speaker < 4; speaker++) {
            x.speaker(speaker, 0, 1 << speaker);
        }
        pooled("each has one", x, 4, 4, 15);
        pooled("each has one, two are asked for", x, 2, 2, 3);
        pooled("each has one, three are asked for", x, 3, 3, 7);
        x.speaker(3, 0, 15);
        pooled("the last one has all", x, 4, 1, 8);
        x.speaker(0, 999, 15);
        pooled("the first one too", x, 4, 1, 1);
        pooled("more than all have", x, 5, NONE, NONE);
    }

    // 17: "together HAVE"; "any number of them may have the same"
    private static void whoHaveTheSame() {
        WordScales x = shop("tds");
        x.speaker(1, 0, 3);
        x.speaker(3, 0, 5);
        pooled("both have the only thing", x, 3, 2, 10);
        x.speaker(0, 0, 1);
        x.speaker(1, 0, 2);
        x.speaker(3, 0, 4);
        pooled("three are needed", x, 3, 3, 11);
        for (int speaker = 0; speaker < 4; speaker++) {
            x.speaker(speaker, 0, 3);
        }
        pooled("all have the same: one will do", x, 2, 1, 1);
        pooled("all have the same: it is not twice there", x, 3, NONE, NONE);
    }

    // 17: "who, least as bits"
    private static void poolIsLeastAsBits() {
        WordScales x = shop("tds");
        x.speaker(0, 0, 2);
        x.speaker(1, 0, 1);
        x.speaker(2, 0, 1);
        x.speaker(3, 0, 2);
        pooled("four pairs can", x, 2, 2, 3);
        x.speaker(0, 0, 4);
        pooled("two pairs can", x, 2, 2, 10);
        x.speaker(1, 0, 0);
        pooled("one pair can", x, 2, 2, 12);
        pooled("three of them can", x, 3, 3, 13);
        x.speaker(0, 0, 7);
        x.speaker(1, 0, 7);
        pooled("fewest goes ahead of least", x, 3, 1, 1);
        x.speaker(0, 0, 3);
        pooled("one is fewer than two that are less", x, 3, 1, 2);
    }

    // 17: "NONE"
    private static void whoHaveNoSentence() {
        WordScales x = shop("tds");
        for (int n = 1; n <= LONGEST; n++) {
            pooled("nobody has anything, of " + n, x, n, NONE, NONE);
        }
        for (int speaker = 0; speaker < 4; speaker++) {
            x.speaker(speaker, 999, 4089);
        }
        pooled("nobody has a deed", x, 2, NONE, NONE);
        Check.sayAll(x, "A+b");
        pooled("the deed is on the pad alone", x, 2, NONE, NONE);
        x.done();
        pooled("the deed is bought", x, 2, 1, 1);
        pooled("one word is no sentence", x, 1, NONE, NONE);
    }

    // 18: "A WISH more: how many"; "WISHES, 8 at most"; "the set 0 to 4095"
    private static void aWishMore() {
        WordScales x = new WordScales();
        int[] sets = {4095, 1, 2048, 4094, 1, 1, 3, 2047};
        for (int wish = 0; wish < MOST_WISHES; wish++) {
            Check.due("wish " + sets[wish], x.wish(sets[wish]), wish + 1);
            Check.due("wishes told", x.told(1), wish + 1);
        }
        Check.due("a ninth", x.wish(0), FULL);
        Check.due("a ninth again", x.wish(4), FULL);
        Check.due("the ninth is not told", x.told(1), MOST_WISHES);
        Check.due("the ninth is not asked", x.nine(1), 2049);
        Check.due("the empty set", new WordScales().wish(0), 1);
        Check.due("the full set", new WordScales().wish(4095), 1);
        Check.due("less than the empty set", new WordScales().wish(-1), OUTSIDE);
        Check.due("more than the full set", new WordScales().wish(4096), OUTSIDE);
    }

    // 19: "WISHES go: how many there were"
    private static void wishesGo() {
        WordScales x = new WordScales();
        Check.due("none go", x.unwish(), 0);
        for (int wish = 0; wish < MOST_WISHES; wish++) {
            x.wish(0);
        }
        x.wish(0);
        Check.due("all eight go", x.unwish(), MOST_WISHES);
        Check.due("none are left to go", x.unwish(), 0);
        Check.due("none are told", x.told(1), 0);
        Check.due("none are asked", x.nine(0), 0);
        Check.due("there is room again", x.wish(2), 1);
        Check.due("the old ones are not behind it", x.nine(1), 2);
        Check.due("one goes", x.unwish(), 1);
    }

    // 20: no WISHES: no WORD is needed
    private static void noWishes() {
        WordScales x = new WordScales();
        Check.due("no wishes: how many", x.nine(0), 0);
        Check.due("no wishes: which", x.nine(1), 0);
    }

    // 20: "NONE (a WISH of no WORDS)", at each place
    private static void aWishOfNoWords() {
        for (int place = 0; place < MOST_WISHES; place++) {
            WordScales x = new WordScales();
            for (int wish = 0; wish < MOST_WISHES; wish++) {
                x.wish(wish == place ? 0 : 4095);
            }
            Check.due("the wish " + place + " is of none: how many", x.nine(0), NONE);
            Check.due("the wish " + place + " is of none: which", x.nine(1), NONE);
        }
        WordScales x = new WordScales();
        x.wish(0);
        Check.due("the only wish is of none", x.nine(1), NONE);
        x.unwish();
        Check.due("it has gone", x.nine(1), 0);
    }

    private static WordScales wishing(int... sets) {
        WordScales x = new WordScales();
        for (int set : sets) {
            x.wish(set);
        }
        return x;
    }

    private static void given(String about, WordScales x, int many, int which) {
        Check.due(about + ": how many", x.nine(0), many);
        Check.due(about + ": which", x.nine(1), which);
    }

    // 20: "the fewest WORDS by which all WISHES can be": one to eight
    private static void fewestWords() {
        given("one for all", wishing(4095, 2048, 3072), 1, 2048);
        given("the same eight times", wishing(64, 64, 64, 64, 64, 64, 64, 64), 1, 64);
        given("one each", wishing(1, 2, 4, 8, 16, 32, 64, 128), 8, 255);
        given("one each of the last", wishing(16, 32, 64, 128, 256, 512, 1024, 2048), 8, 4080);
        given("two each of twelve", wishing(3, 12, 48, 192, 768, 3072), 6, 1365);
        given("fewest goes ahead of least", wishing(2049, 2050, 2052), 1, 2048);
        given("two for three", wishing(3, 5, 6), 2, 3);
    }

    // 20: "which, least as bits"
    private static void nineIsLeastAsBits() {
        given("any one will do", wishing(4095), 1, 1);
        given("any one but the first", wishing(4094), 1, 2);
        given("one of two for each", wishing(3072, 3), 2, 1025);
        given("a middle one for two", wishing(6, 12, 3072), 2, 1028);
        given("two of three pairs", wishing(6, 12, 10), 2, 6);
    }
}
