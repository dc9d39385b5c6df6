/** Counts the answers that are not due; each test ends with end(). */
final class Check {
    static final int MOST_CALLS = 512, TOLD = 47;

    private static int wrong = 0;
    private static int calls = 0;

    private Check() {
    }

    static void due(String call, long got, long want) {
        calls++;
        if (got != want) {
            wrong++;
            System.out.println(call + " answered " + got + ", due is " + want);
        }
    }

    static void end() {
        System.out.println(wrong == 0 ? calls + " answers are as due" : wrong + " answers are not as due");
        if (wrong != 0) {
            System.exit(1);
        }
    }

    /** The numbers next to a range on both sides, and the farthest ones. */
    static int[] outside(int least, int most) {
        return new int[] {least - 1, most + 1, Integer.MIN_VALUE, Integer.MAX_VALUE};
    }

    /** A new object with the text on its pad. */
    static WordScales withText(String text) {
        WordScales x = new WordScales();
        sayAll(x, text);
        return x;
    }

    static void sayAll(WordScales x, String text) {
        for (int place = 0; place < text.length(); place++) {
            x.say(text.charAt(place));
        }
    }

    static void sayAnew(WordScales x, String text) {
        x.wipe();
        sayAll(x, text);
    }

    /** The set of the letters' words, as bits. */
    static int set(String letters) {
        int bits = 0;
        for (int place = 0; place < letters.length(); place++) {
            bits |= 1 << letters.charAt(place) - 'a';
        }
        return bits;
    }

    /** Kinds of the words from a on: t a thing, d a deed, s a sort; all of one weight. */
    static void kinds(WordScales x, String kinds, int weight) {
        for (int word = 0; word < kinds.length(); word++) {
            x.word(word, weight, "tds".indexOf(kinds.charAt(word)));
        }
    }

    /** All that told() tells, as one text; asked for in TOLD calls, since an object has but 512. */
    static String allTold(WordScales x) {
        StringBuilder all = new StringBuilder();
        for (int what = 0; what <= 212; what++) {
            if (isTold(what)) {
                all.append(what).append('=').append(x.told(what)).append(' ');
            }
        }
        return all.toString();
    }

    static boolean isTold(int what) {
        return what >= 0 && what <= 2 || what >= 10 && what <= 13 || what >= 20 && what <= 23
                || what >= 100 && what <= 212 && what % 10 <= 2;
    }

    static void same(String what, String got, String want) {
        calls++;
        if (!got.equals(want)) {
            wrong++;
            System.out.println(what + ": " + got + ", due is " + want);
        }
    }
}
