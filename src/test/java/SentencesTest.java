/** Promises 15 to 20: says, cheap, pool, wish, unwish, nine. */
public final class SentencesTest {
    private static final int UNKNOWN = -1, OUTSIDE = -2, FULL = -4, NONE = -6;

    public static void main(String[] args) {
        says();
        cheap();
        pool();
        wishAndUnwish();
        nine();
        Check.end();
    }

    private static void says(String kinds, int n, long want) {
        WordScales x = new WordScales();
        Check.kinds(x, kinds, 10);
        x.speaker(2, 0, (1 << kinds.length()) - 1);
        Check.due("says of '" + kinds + "' in " + n, x.says(2, n), want);
    }

    // Promise 15
    private static void says() {
        says("td", 1, 0);
        says("td", 2, 1);
        says("td", 3, 1);
        says("td", 4, 0);
        says("ttdd", 2, 4);
        says("ttdd", 3, 8);
        says("tds", 3, 2);
        says("tds", 4, 1 + 2);
        says("tds", 8, 1 + 6);
        says("tss", 3, 0);
        says("dss", 3, 0);
        says("tdss", 5, 8 + 3 * 4);
        says("tttdddssssss", 8, 46656L * 9 + 6 * 7776L * 27);
        WordScales x = new WordScales();
        Check.kinds(x, "tds", 10);
        x.speaker(0, 0, Check.set("ab"));
        Check.due("says: only of what he has", x.says(0, 3), 1);
        Check.due("says: another has nothing", x.says(1, 2), 0);
        Check.sayAll(x, "B+aB+b");
        Check.due("says: not of what is on the pad", x.says(1, 2), 0);
        x.done();
        Check.due("says: of what is done", x.says(1, 2), 1);
        Check.due("says(-1, 2)", x.says(-1, 2), UNKNOWN);
        Check.due("says(4, 9)", x.says(4, 9), UNKNOWN);
        Check.due("says(0, 0)", x.says(0, 0), OUTSIDE);
        Check.due("says(0, 9)", x.says(0, 9), OUTSIDE);
    }

    private static void cheap(WordScales x, int speaker, int n, int much, int which) {
        Check.due("cheap(" + speaker + ", " + n + ", 0)", x.cheap(speaker, n, 0), much);
        Check.due("cheap(" + speaker + ", " + n + ", 1)", x.cheap(speaker, n, 1), which);
    }

    // Promise 16
    private static void cheap() {
        WordScales x = new WordScales();
        cheap(x, 0, 2, NONE, NONE);
        Check.kinds(x, "ttddss", 10);
        cheap(x, 0, 1, NONE, NONE);
        cheap(x, 0, 2, 20, Check.set("ac"));
        cheap(x, 0, 3, 30, Check.set("abc"));
        cheap(x, 0, 4, 40, Check.set("abce"));
        cheap(x, 0, 5, 50, Check.set("abcef"));
        // The words from g on are things, but two things and a deed go with two sorts alone.
        cheap(x, 0, 6, NONE, NONE);
        x.word(3, 4, 1);
        x.word(1, 5, 0);
        cheap(x, 0, 2, 9, Check.set("bd"));
        x.word(5, 0, 2);
        cheap(x, 0, 3, 9, Check.set("bdf"));
        x.rhyme(1, 3);
        cheap(x, 0, 3, 9, Check.set("bdf"));
        x.speaker(0, 0, Check.set("ac"));
        cheap(x, 0, 2, 0, Check.set("ac"));
        cheap(x, 0, 3, 0, Check.set("acf"));
        cheap(x, 1, 3, 9, Check.set("bdf"));
        Check.kinds(x, "tdssssssssss", 99);
        cheap(x, 3, 8, 792, Check.set("abcdefgh"));
        Check.kinds(x, "ssssssssssdt", 3);
        x.speaker(3, 0, Check.set("jk"));
        cheap(x, 3, 4, 6, Check.set("ajkl"));
        Check.due("cheap(-1, 2, 0)", x.cheap(-1, 2, 0), UNKNOWN);
        Check.due("cheap(4, 9, 2)", x.cheap(4, 9, 2), UNKNOWN);
        Check.due("cheap(0, 0, 0)", x.cheap(0, 0, 0), OUTSIDE);
        Check.due("cheap(0, 9, 0)", x.cheap(0, 9, 0), OUTSIDE);
        Check.due("cheap(0, 2, -1)", x.cheap(0, 2, -1), OUTSIDE);
        Check.due("cheap(0, 2, 2)", x.cheap(0, 2, 2), OUTSIDE);
    }

    private static void pool(WordScales x, int n, int many, int who) {
        Check.due("pool(" + n + ", 0)", x.pool(n, 0), many);
        Check.due("pool(" + n + ", 1)", x.pool(n, 1), who);
    }

    // Promise 17
    private static void pool() {
        WordScales x = new WordScales();
        Check.kinds(x, "ttdssssssss", 10);
        pool(x, 2, NONE, NONE);
        x.speaker(0, 0, Check.set("a"));
        x.speaker(1, 0, Check.set("d"));
        x.speaker(2, 0, Check.set("c"));
        x.speaker(3, 0, Check.set("b"));
        pool(x, 1, NONE, NONE);
        pool(x, 2, 2, 5);
        // A sort, a thing, a deed by three, or two things and a deed by three.
        pool(x, 3, 3, 7);
        pool(x, 4, 4, 15);
        pool(x, 5, NONE, NONE);
        x.speaker(3, 0, Check.set("abcd"));
        pool(x, 2, 1, 8);
        pool(x, 4, 1, 8);
        pool(x, 5, NONE, NONE);
        x.speaker(0, 0, Check.set("e"));
        x.speaker(2, 0, Check.set("e"));
        pool(x, 5, 2, 9);
        pool(x, 6, NONE, NONE);
        x.speaker(3, 0, Check.set("bcdefghij"));
        pool(x, 8, 1, 8);
        x.speaker(3, 0, Check.set("bcdefgh"));
        pool(x, 8, NONE, NONE);
        x.speaker(1, 0, Check.set("a"));
        pool(x, 8, 2, 10);
        x.speaker(3, 0, Check.set("abdefghij"));
        pool(x, 3, NONE, NONE);
        x.speaker(0, 0, Check.set("a"));
        x.speaker(1, 0, Check.set("b"));
        x.speaker(2, 0, Check.set("a"));
        x.speaker(3, 0, Check.set("c"));
        // A thing, a deed, a thing, and no sort.
        pool(x, 3, 3, 11);
        x.speaker(1, 0, Check.set("d"));
        pool(x, 3, 3, 11);
        Check.due("pool(0, 0)", x.pool(0, 0), OUTSIDE);
        Check.due("pool(9, 0)", x.pool(9, 0), OUTSIDE);
        Check.due("pool(2, -1)", x.pool(2, -1), OUTSIDE);
        Check.due("pool(2, 2)", x.pool(2, 2), OUTSIDE);
    }

    // Promises 18, 19
    private static void wishAndUnwish() {
        WordScales x = new WordScales();
        Check.due("unwish nothing", x.unwish(), 0);
        Check.due("wish(-1)", x.wish(-1), OUTSIDE);
        Check.due("wish(4096)", x.wish(4096), OUTSIDE);
        for (int wish = 1; wish <= 8; wish++) {
            Check.due("wish, number " + wish, x.wish(4095), wish);
            Check.due("wishes told", x.told(1), wish);
        }
        Check.due("wish, a ninth", x.wish(1), FULL);
        Check.due("wish, a ninth outside", x.wish(4096), OUTSIDE);
        Check.due("wishes told at last", x.told(1), 8);
        Check.due("nine: the ninth was not taken", x.nine(1), 1);
        Check.due("unwish", x.unwish(), 8);
        Check.due("wishes told behind unwish", x.told(1), 0);
        Check.due("nine behind unwish", x.nine(0), 0);
        Check.due("wish anew", x.wish(0), 1);
    }

    private static void nine(int[] wishes, int many, int which) {
        WordScales x = new WordScales();
        for (int wish = 0; wish < wishes.length; wish++) {
            x.wish(wishes[wish]);
        }
        Check.due("nine(0), wishes " + wishes.length, x.nine(0), many);
        Check.due("nine(1), wishes " + wishes.length, x.nine(1), which);
    }

    // Promise 20
    private static void nine() {
        nine(new int[] {}, 0, 0);
        nine(new int[] {0}, NONE, NONE);
        nine(new int[] {1, 0, 3}, NONE, NONE);
        nine(new int[] {4095}, 1, 1);
        nine(new int[] {2048}, 1, 2048);
        nine(new int[] {6, 12}, 1, 4);
        nine(new int[] {3, 12}, 2, 5);
        nine(new int[] {3, 12, 10}, 2, 6);
        // One word of {c} is fewer than the two of less worth as bits.
        nine(new int[] {5, 6}, 1, 4);
        nine(new int[] {1, 2, 4, 8, 16, 32, 64, 2048}, 8, 127 + 2048);
        nine(new int[] {3, 5, 6}, 2, 3);
        WordScales x = new WordScales();
        Check.due("nine(-1)", x.nine(-1), OUTSIDE);
        Check.due("nine(2)", x.nine(2), OUTSIDE);
    }
}
