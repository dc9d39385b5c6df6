/** Promises 21 to 27: seen, forget, hollow, lay, weather, synonyms, year. */
public final class HollowTest {
    private static final int OUTSIDE = -2, FULL = -4, NONE = -6;
    private static final long REFUSED = -1000000000000000002L;

    public static void main(String[] args) {
        seenAndForget();
        hollow();
        lay();
        weather();
        synonyms();
        year();
        Check.end();
    }

    // Promises 21, 22
    private static void seenAndForget() {
        WordScales x = new WordScales();
        Check.due("forget nothing", x.forget(), 0);
        Check.due("seen: left -1", x.seen(-1, 1, 0), OUTSIDE);
        Check.due("seen: left 4096", x.seen(4096, 1, 0), OUTSIDE);
        Check.due("seen: right -1", x.seen(1, -1, 0), OUTSIDE);
        Check.due("seen: right 4096", x.seen(1, 4096, 0), OUTSIDE);
        Check.due("seen: not as many", x.seen(3, 4, 0), OUTSIDE);
        Check.due("seen: nothing against one", x.seen(0, 4, 0), OUTSIDE);
        Check.due("seen: one on both sides", x.seen(3, 6, 0), OUTSIDE);
        Check.due("seen: the same", x.seen(3, 3, 2), OUTSIDE);
        Check.due("seen: how -1", x.seen(1, 2, -1), OUTSIDE);
        Check.due("seen: how 3", x.seen(1, 2, 3), OUTSIDE);
        Check.due("seen: refused are none", x.told(2), 0);
        for (int sight = 1; sight <= 6; sight++) {
            Check.due("seen, number " + sight, x.seen(63, 4032, sight % 2), sight);
            Check.due("sights told", x.told(2), sight);
        }
        Check.due("seen, a seventh", x.seen(1, 2, 2), FULL);
        Check.due("seen, a seventh outside", x.seen(1, 2, 3), OUTSIDE);
        Check.due("forget", x.forget(), 6);
        Check.due("sights told behind forget", x.told(2), 0);
        Check.due("hollow behind forget", x.hollow(), 4095);
        Check.due("seen nothing against nothing", x.seen(0, 0, 2), 1);
        Check.due("hollow behind that", x.hollow(), 4095);
    }

    // Promise 23
    private static void hollow() {
        WordScales x = new WordScales();
        Check.due("hollow: all", x.hollow(), 4095);
        x.seen(Check.set("abcd"), Check.set("efgh"), 0);
        Check.due("hollow: on the left", x.hollow(), Check.set("abcd"));
        x.seen(Check.set("ai"), Check.set("bj"), 1);
        Check.due("hollow: on the right", x.hollow(), Check.set("b"));
        x.seen(Check.set("b"), Check.set("c"), 2);
        Check.due("hollow: none", x.hollow(), 0);
        x.forget();
        x.seen(Check.set("abc"), Check.set("jkl"), 2);
        Check.due("hollow: on neither", x.hollow(), Check.set("defghi"));
        x.seen(0, 0, 1);
        Check.due("hollow: nothing was lighter", x.hollow(), 0);
        x.word(0, 0, 0);
        Check.due("hollow: weights are no matter", x.hollow(), 0);
    }

    /** The sights are rows of left, right and how. */
    private static void lay(int[] sights, int suspects, int each, int left, int turns) {
        WordScales x = new WordScales();
        for (int at = 0; at < sights.length; at += 3) {
            x.seen(sights[at], sights[at + 1], sights[at + 2]);
        }
        Check.due("suspects", Integer.bitCount(x.hollow()), suspects);
        Check.due("lay(0) of " + suspects, x.lay(0), each);
        Check.due("lay(1) of " + suspects, x.lay(1), left);
        Check.due("lay(2) of " + suspects, x.lay(2), turns);
    }

    // Promise 24
    private static void lay() {
        lay(new int[] {0, 0, 0}, 0, NONE, NONE, 0);
        lay(new int[] {1, 2, 0}, 1, 0, 1, 0);
        lay(new int[] {3, 12, 0}, 2, 1, 1, 1);
        lay(new int[] {7, 56, 1}, 3, 1, 1, 1);
        lay(new int[] {15, 240, 2}, 4, 1, 2, 2);
        lay(new int[] {31, 992, 0}, 5, 2, 2, 2);
        lay(new int[] {7, 56, 2}, 6, 2, 2, 2);
        lay(new int[] {1, 2, 2, 1, 4, 2, 8, 16, 2}, 7, 2, 3, 2);
        lay(new int[] {3, 12, 2}, 8, 3, 3, 2);
        lay(new int[] {1, 2, 2, 1, 4, 2}, 9, 3, 3, 2);
        lay(new int[] {1, 2, 2}, 10, 3, 4, 3);
        lay(new int[] {}, 12, 4, 4, 3);
        WordScales x = new WordScales();
        Check.due("lay(-1)", x.lay(-1), OUTSIDE);
        Check.due("lay(3)", x.lay(3), OUTSIDE);
        x.seen(0, 0, 0);
        Check.due("lay(-1) of none", x.lay(-1), OUTSIDE);
        Check.due("lay(3) of none", x.lay(3), OUTSIDE);
    }

    private static void weather(int v, int m, int t, long upper, long lower, long atOnce) {
        WordScales x = new WordScales();
        String call = "weather(" + v + ", " + m + ", " + t;
        Check.due(call + ", 0, 0)", x.weather(v, m, t, 0, 0), upper);
        Check.due(call + ", 0, 1)", x.weather(v, m, t, 0, 1), lower);
        Check.due(call + ", 1, 0)", x.weather(v, m, t, 1, 0), atOnce);
        Check.due(call + ", 1, 1)", x.weather(v, m, t, 1, 1), atOnce);
    }

    // Promise 25
    private static void weather() {
        weather(0, 0, 0, 0, 1, 1);
        weather(40, 0, 10, 40, 1, 1);
        weather(40, 8, 10, 48, 1, 0);
        weather(40, 8, 0, 40, 1, 1);
        weather(0, 8, 0, 0, 1, 1);
        weather(0, 8, 10, 8, 1, 0);
        weather(0, 1, 5, 1, 2, 0);
        weather(0, 1, 2, 1, 5, 0);
        weather(0, 1, 3, 3, 10, 0);
        // 5 of 10 at 7: to wait brings 7 as well, so it is handed in.
        weather(7, 1, 5, 7, 1, 1);
        weather(7, 1, 6, 36, 5, 0);
        weather(7, 1, 4, 7, 1, 1);
        // From 1 in two days: half 2; half 0, from where half 1 comes; 1 and a quarter.
        weather(1, 2, 5, 5, 4, 0);
        weather(3, 8, 6, 1838139, 390625, 0);
        // 0 at 5 of 10 in two days: half 1 (kept or waited the same), half 0 again, which brings a half: 3/4.
        weather(0, 2, 5, 3, 4, 0);
        WordScales x = new WordScales();
        Check.due("weather: v -1", x.weather(-1, 0, 0, 0, 0), REFUSED);
        Check.due("weather: v 41", x.weather(41, 0, 0, 0, 0), REFUSED);
        Check.due("weather: m -1", x.weather(0, -1, 0, 0, 0), REFUSED);
        Check.due("weather: m 9", x.weather(0, 9, 0, 0, 0), REFUSED);
        Check.due("weather: t -1", x.weather(0, 0, -1, 0, 0), REFUSED);
        Check.due("weather: t 11", x.weather(0, 0, 11, 0, 0), REFUSED);
        Check.due("weather: what -1", x.weather(0, 0, 0, -1, 0), REFUSED);
        Check.due("weather: what 2", x.weather(0, 0, 0, 2, 0), REFUSED);
        Check.due("weather: part -1", x.weather(0, 0, 0, 0, -1), REFUSED);
        Check.due("weather: part 2", x.weather(0, 0, 0, 1, 2), REFUSED);
        Check.due("weather: one object's rows again", x.weather(3, 8, 6, 0, 0), 1838139);
        Check.due("weather: one object's rows again", x.weather(0, 1, 5, 0, 1), 2);
    }

    // Promise 26
    private static void synonyms() {
        WordScales x = new WordScales();
        Check.due("synonyms: no turns", x.synonyms(9, 3, 7, 0), 9);
        Check.due("synonyms: one turn", x.synonyms(9, 3, 7, 1), 8);
        Check.due("synonyms: just above cost", x.synonyms(9, 3, 7, 5), 4);
        Check.due("synonyms: at cost, so top", x.synonyms(9, 3, 7, 6), 7);
        Check.due("synonyms: round", x.synonyms(9, 3, 7, 10), 7);
        Check.due("synonyms: 99 turns", x.synonyms(9, 3, 7, 99), 6);
        Check.due("synonyms: below cost", x.synonyms(0, 20, 40, 1), 40);
        Check.due("synonyms: cost 0", x.synonyms(1, 0, 1, 1), 1);
        Check.due("synonyms: cost 0, price 2", x.synonyms(2, 0, 40, 1), 1);
        Check.due("synonyms: ring", x.synonyms(9, 3, 7, -1), 4);
        Check.due("synonyms: ring of one", x.synonyms(40, 20, 21, -1), 1);
        Check.due("synonyms: ring of forty", x.synonyms(0, 0, 40, -1), 40);
        Check.due("synonyms: v -1", x.synonyms(-1, 3, 7, 0), OUTSIDE);
        Check.due("synonyms: v 41", x.synonyms(41, 3, 7, 0), OUTSIDE);
        Check.due("synonyms: c -1", x.synonyms(9, -1, 7, 0), OUTSIDE);
        Check.due("synonyms: c 21", x.synonyms(9, 21, 30, 0), OUTSIDE);
        Check.due("synonyms: p as c", x.synonyms(9, 7, 7, 0), OUTSIDE);
        Check.due("synonyms: p 41", x.synonyms(9, 3, 41, 0), OUTSIDE);
        Check.due("synonyms: n -2", x.synonyms(9, 3, 7, -2), OUTSIDE);
        Check.due("synonyms: n 100", x.synonyms(9, 3, 7, 100), OUTSIDE);
        Check.due("synonyms: c most", x.synonyms(9, Integer.MAX_VALUE, 7, 0), OUTSIDE);
    }

    // Promise 27: who is given a word is seen by the act behind it.
    private static void giftsOfAYear() {
        WordScales x = new WordScales();
        x.speaker(0, 50, 1 << 11);
        Check.due("year: A gives l to B, who speaks it", x.year(22, 2, 1), 119);
        Check.due("year: A gives l to D, and buys it", x.year(214, 2, 0), 190);
        x.speaker(0, 50, 1 << 9);
        Check.due("year: A gives j to B, who hands it in", x.year(1633, 2, 2), 0);
        Check.due("year: a half for what is handed in", x.year(1633, 2, 0), 205);
    }

    // Promise 27
    private static void year() {
        WordScales x = new WordScales();
        // x is 74: of C (74 % 4) and word g (18 % 12), act 74 / 48 % 6 = 1: he buys it.
        Check.due("year: purses", x.year(0, 1, 0), 190);
        Check.due("year: weights", x.year(0, 1, 1), 120);
        Check.due("year: words", x.year(0, 1, 2), 1);
        Check.due("year: nothing is done in fact", x.told(12) + x.told(22), 50);
        x.speaker(2, 9, 0);
        Check.due("year: he has too little", x.year(0, 1, 0), 159);
        x.speaker(2, 50, 64);
        Check.due("year: he has it already", x.year(0, 1, 0), 200);
        // 75 and 74 are 149: of B and word b (37 % 12), act 3: he speaks it.
        Check.due("year: he has not what he would speak", x.year(1, 1, 1), 120);
        x.speaker(1, 50, 2);
        Check.due("year: he speaks it", x.year(1, 1, 1), 119);
        // 2 * 75 and 74 are 224: of A and word i (56 % 12 = 8), act 4: he hands it in.
        Check.due("year: he has not what he would hand in", x.year(2, 1, 2), 2);
        x.speaker(0, 994, 256);
        Check.due("year: he hands it in", x.year(2, 1, 0), 994 + 5 + 150);
        Check.due("year: one word less", x.year(2, 1, 2), 2);
        x.speaker(0, 995, 256);
        Check.due("year: his purse would have too much", x.year(2, 1, 2), 3);
        x.speaker(0, 995, 0);
        x.speaker(1, 999, 2);
        x.speaker(3, 999, 0);
        // 3 * 75 and 74 are 299: of D and word c (74 % 12), act 0 (299 / 48 = 6): he buys it.
        Check.due("year: he buys", x.year(3, 1, 0), 995 + 999 + 50 + 999 - 10);
        // 27 * 75 and 74 are 2099: of D and word i (524 % 12 = 8), act 43 % 6 = 1.
        Check.due("year: he buys, by the other number", x.year(27, 1, 2), 3);
        // 10 * 75 and 74 are 824: of A and word c (206 % 12 = 2), act 17 % 6 = 5: he gives it to C (2).
        x.speaker(0, 0, 4);
        Check.due("year: he gives it, as many words", x.year(10, 1, 2), 3);
        Check.due("year: he gives it, purses stay", x.year(10, 1, 0), 999 + 50 + 999);
        x.speaker(2, 50, 4 + 64);
        Check.due("year: the other one has it already", x.year(10, 1, 2), 4);
        giftsOfAYear();
        WordScales y = new WordScales();
        Check.due("year of the last seed", y.year(9999, 1, 0), 190);
        Check.due("year of 99 acts: purses", y.year(9999, 99, 0), 20);
        Check.due("year of 99 acts: weights", y.year(9999, 99, 1), 116);
        Check.due("year of 99 acts: words", y.year(9999, 99, 2), 15);
        Check.due("year of seed 0", y.year(0, 99, 2), 13);
        Check.due("year: seed -1", x.year(-1, 1, 0), OUTSIDE);
        Check.due("year: seed 10000", x.year(10000, 1, 0), OUTSIDE);
        Check.due("year: m 0", x.year(0, 0, 0), OUTSIDE);
        Check.due("year: m 100", x.year(0, 100, 0), OUTSIDE);
        Check.due("year: what -1", x.year(0, 1, -1), OUTSIDE);
        Check.due("year: what 3", x.year(0, 1, 3), OUTSIDE);
    }
}
