/** Promises 28 to 30 at their edges; each function stands for the document's sentence that is quoted above it. */
public final class EdgesOfImagesTest {
    private static final int OUTSIDE = -2, STATE = -3, NONE = -6;

    public static void main(String[] args) {
        twoImages();
        keptAnew();
        allIsKept();
        butThePad();
        theOtherImageIsNoPartOfIt();
        itWasNotKept();
        asItWasWhenItWasKept();
        emptyAndFull();
        ofThisObjectAlone();
        numbersThatAreTold();
        numbersBetween();
        countsThatAreTold();
        speakersThatAreTold();
        wordsThatAreTold();
        withoutItself();
        whatThePadWouldComeToIsNotTold();
        Check.end();
    }

    // 28: "an IMAGE (0, 1): 1"
    private static void twoImages() {
        WordScales x = new WordScales();
        Check.due("image(-1)", x.image(-1), OUTSIDE);
        Check.due("image(0)", x.image(0), 1);
        x.word(0, 20, 0);
        Check.due("image(1)", x.image(1), 1);
        Check.due("image(2)", x.image(2), OUTSIDE);
        x.word(0, 30, 0);
        Check.due("restore(0)", x.restore(0), 1);
        Check.due("of the one", x.told(100), 10);
        Check.due("restore(1)", x.restore(1), 1);
        Check.due("of the other", x.told(100), 20);
        Check.due("restore(0) again", x.restore(0), 1);
        Check.due("of the one again", x.told(100), 10);
        Check.due("restore(-1)", x.restore(-1), OUTSIDE);
        Check.due("restore(2)", x.restore(2), OUTSIDE);
        Check.due("refused ones restore nothing", x.told(100), 10);
    }

    // 28: "is kept", in an IMAGE that was kept before
    private static void keptAnew() {
        for (int k = 0; k <= 1; k++) {
            WordScales x = new WordScales();
            for (int weight = 1; weight <= 3; weight++) {
                x.word(0, weight, 0);
                Check.due("image " + k + " anew", x.image(k), 1);
            }
            x.word(0, 9, 0);
            x.restore(k);
            Check.due("the last that was kept in " + k, x.told(100), 3);
            Check.due("the other one was never kept", x.restore(1 - k), STATE);
        }
    }

    /** Everything that can be is otherwise than at first, at its first and its last place. */
    private static WordScales full() {
        WordScales x = new WordScales();
        x.word(0, 99, 2);
        x.word(11, 0, 1);
        x.rhyme(0, 11);
        x.rhyme(5, 6);
        x.speaker(0, 0, 4095);
        x.speaker(3, 999, 2049);
        for (int wish = 0; wish < 8; wish++) {
            x.wish(16 << wish);
        }
        x.seen(3072, 768, 0);
        x.seen(512, 1024, 2);
        for (int sight = 2; sight < 6; sight++) {
            x.seen(1 << sight, 2 << sight, 2);
        }
        return x;
    }

    private static void spoil(WordScales x) {
        for (int word = 0; word < 12; word++) {
            x.word(word, 50 + word, word % 2);
            x.part(word);
        }
        x.rhyme(0, 1);
        for (int speaker = 0; speaker < 4; speaker++) {
            x.speaker(speaker, 7, 7);
        }
        x.unwish();
        x.forget();
        for (int wish = 0; wish < 8; wish++) {
            x.wish(3);
        }
        for (int sight = 0; sight < 6; sight++) {
            x.seen(1, 2, 0);
        }
    }

    private static void asFull(String about, WordScales x) {
        Check.same(about, Check.allTold(x), Check.allTold(full()));
        Check.due(about + ": wishes", x.nine(1), 4080);
        Check.due(about + ": sights", x.hollow(), 2048);
        Check.due(about + ": rhymes", x.scales(2049), 99);
    }

    // 28: "All ... is kept"; 29: "It is as it was"
    private static void allIsKept() {
        for (int k = 0; k <= 1; k++) {
            WordScales x = full();
            x.image(k);
            asFull("kept in " + k + ": nothing is changed", x);
            spoil(x);
            Check.due("spoilt: wishes", x.nine(1), 1);
            Check.due("spoilt: sights", x.hollow(), 1);
            x.restore(k);
            asFull("restored from " + k, x);
        }
    }

    // 28: "All but the PAD"
    private static void butThePad() {
        WordScales x = new WordScales();
        Check.sayAll(x, "A+");
        x.image(0);
        x.say('a');
        x.restore(0);
        Check.due("restored: what was said since stays", x.told(0), 3);
        Check.due("restored: it can be read", x.behind(0, 1), 1);
        x.wipe();
        x.restore(0);
        Check.due("restored: what was wiped since is gone", x.told(0), 0);
        Check.due("restored: no fault comes back", x.fault(), NONE);
        for (int sign = 0; sign < 60; sign++) {
            x.say('.');
        }
        x.restore(0);
        Check.due("restored: a full pad stays full", x.say('.'), -4);
        x.wipe();
        Check.sayAll(x, "B+b");
        x.done();
        Check.due("done", x.told(21), 2);
        x.restore(0);
        Check.due("restored: what was done is not so", x.told(21), 0);
        Check.due("restored: what was done is not on the pad", x.told(0), 0);
    }

    // 28: an IMAGE is not kept in the other one
    private static void theOtherImageIsNoPartOfIt() {
        WordScales x = new WordScales();
        x.image(0);
        x.word(0, 20, 0);
        x.image(1);
        Check.due("restore what was kept ahead of the other", x.restore(0), 1);
        Check.due("the other one is kept still", x.restore(1), 1);
        Check.due("the other one is as it was", x.told(100), 20);
    }

    // 29: "OUTSIDE; STATE: it was not"
    private static void itWasNotKept() {
        WordScales x = full();
        Check.due("restore(0), none kept", x.restore(0), STATE);
        Check.due("restore(1), none kept", x.restore(1), STATE);
        Check.due("restore(-1), none kept", x.restore(-1), OUTSIDE);
        Check.due("restore(2), none kept", x.restore(2), OUTSIDE);
        asFull("refused: it is as it was", x);
        x.image(2);
        x.image(-1);
        Check.due("restore(0), refused ones keep nothing", x.restore(0), STATE);
        Check.due("restore(1), refused ones keep nothing", x.restore(1), STATE);
        x.image(0);
        Check.due("restore(1), the other one kept", x.restore(1), STATE);
    }

    // 29: "It is as it was when it was kept", again and again
    private static void asItWasWhenItWasKept() {
        WordScales x = full();
        x.image(0);
        for (int time = 0; time < 3; time++) {
            spoil(x);
            x.restore(0);
            asFull("restored, time " + time, x);
        }
        x.speaker(0, 5, 1);
        x.restore(0);
        x.image(1);
        spoil(x);
        x.restore(1);
        asFull("kept of what was restored", x);
    }

    // 29: a new object's state, and a full one's, each brought back behind the other
    private static void emptyAndFull() {
        WordScales x = new WordScales();
        x.image(0);
        spoil(x);
        x.image(1);
        x.restore(0);
        Check.same("as new", Check.allTold(x), Check.allTold(new WordScales()));
        Check.due("as new: no wishes are asked", x.nine(1), 0);
        Check.due("as new: no sights are seen", x.hollow(), 4095);
        Check.due("as new: room for a wish", x.wish(0), 1);
        Check.due("as new: room for a sight", x.seen(0, 0, 2), 1);
        x.restore(1);
        Check.due("as full: no room for a wish", x.wish(0), -4);
        Check.due("as full: no room for a sight", x.seen(0, 0, 2), -4);
        x.restore(0);
        Check.due("as new again: room for a wish", x.wish(0), 1);
    }

    // 29: another object's IMAGES are no matter
    private static void ofThisObjectAlone() {
        WordScales x = new WordScales();
        WordScales y = new WordScales();
        x.word(0, 20, 0);
        x.image(0);
        Check.due("another object has kept none", y.restore(0), STATE);
        y.image(0);
        x.restore(0);
        Check.due("another object's image is another", x.told(100), 20);
    }

    // 30: which numbers are told, one by one
    private static void numbersThatAreTold() {
        for (int from = -100; from < 400; from += 250) {
            WordScales x = full();
            for (int what = from; what < from + 250; what++) {
                boolean told = x.told(what) != OUTSIDE;
                Check.due("is " + what + " told", told ? 1 : 0, Check.isTold(what) ? 1 : 0);
            }
        }
    }

    // 30: "OUTSIDE": the numbers next to those that are told
    private static void numbersBetween() {
        WordScales x = full();
        int[] outside = {Integer.MIN_VALUE, -1, 3, 9, 14, 19, 24, 99, 103, 109, 113, 119, 209, 213, 219, 220, 221,
            Integer.MAX_VALUE};
        for (int what : outside) {
            Check.due("told(" + what + ")", x.told(what), OUTSIDE);
        }
    }

    // 30: "0 signs, 1 WISHES, 2 SIGHTS": none, and as many as can be
    private static void countsThatAreTold() {
        WordScales x = new WordScales();
        WordScales y = full();
        Check.sayAll(y, ".".repeat(61));
        y.wish(1);
        y.seen(1, 2, 0);
        int[] most = {60, 8, 6};
        for (int what = 0; what <= 2; what++) {
            Check.due("none: told(" + what + ")", x.told(what), 0);
            Check.due("the most: told(" + what + ")", y.told(what), most[what]);
        }
    }

    // 30: "10 and a SPEAKER: PURSE; 20 and one: HAS (bits)"
    private static void speakersThatAreTold() {
        WordScales x = new WordScales();
        int[] purses = {0, 1, 998, 999};
        int[] has = {4095, 0, 2048, 1};
        for (int speaker = 0; speaker < 4; speaker++) {
            x.speaker(speaker, purses[speaker], has[speaker]);
        }
        for (int speaker = 0; speaker < 4; speaker++) {
            Check.due("purse told of " + speaker, x.told(10 + speaker), purses[speaker]);
            Check.due("has told of " + speaker, x.told(20 + speaker), has[speaker]);
        }
    }

    // 30: "100 and 10 times a WORD and 0 WEIGHT, 1 KIND"
    private static void wordsThatAreTold() {
        WordScales x = new WordScales();
        for (int word = 0; word < 12; word++) {
            x.word(word, 9 * word, word % 3);
        }
        for (int word = 0; word < 12; word++) {
            Check.due("weight told of " + word, x.told(100 + 10 * word), 9 * word);
            Check.due("kind told of " + word, x.told(101 + 10 * word), word % 3);
        }
    }

    // 30: "2 with which it RHYMES (bits, without itself)"
    private static void withoutItself() {
        WordScales x = new WordScales();
        x.rhyme(0, 11);
        Check.due("rhymes told of the first", x.told(102), 2048);
        Check.due("rhymes told of the last", x.told(212), 1);
        Check.due("rhymes told of one without", x.told(112), 0);
        for (int word = 1; word < 12; word++) {
            x.rhyme(word, word - 1);
        }
        for (int word = 0; word < 12; word++) {
            Check.due("all rhymes told of " + word, x.told(102 + 10 * word), 4095 & ~(1 << word));
        }
    }

    // 30: what is told is so in fact
    private static void whatThePadWouldComeToIsNotTold() {
        WordScales x = new WordScales();
        Check.sayAll(x, "A+aAaA>Ba");
        Check.due("signs are told", x.told(0), 9);
        Check.due("purse is told as it is", x.told(10), 50);
        Check.due("has is told as it is", x.told(21), 0);
        Check.due("weight is told as it is", x.told(100), 10);
        x.done();
        Check.due("done: no signs are told", x.told(0), 0);
        Check.due("done: purse", x.told(10), 40);
        Check.due("done: has", x.told(21), 1);
        Check.due("done: weight", x.told(100), 9);
    }
}
