/** Promises 28 to 30: image, restore, told; and the face. */
public final class ImagesTest {
    private static final int OUTSIDE = -2, STATE = -3;

    public static void main(String[] args) {
        image();
        restore();
        told();
        constants();
        Check.end();
    }

    private static WordScales full() {
        WordScales x = new WordScales();
        x.word(3, 33, 2);
        x.rhyme(3, 4);
        x.speaker(1, 111, 77);
        x.wish(5);
        x.wish(8);
        x.seen(1, 2, 0);
        return x;
    }

    private static void spoil(WordScales x) {
        x.word(3, 1, 1);
        x.part(3);
        x.rhyme(5, 6);
        x.speaker(1, 1, 1);
        x.unwish();
        x.wish(0);
        x.forget();
        x.seen(4, 8, 1);
        x.seen(4, 8, 1);
    }

    // Promise 28
    private static void image() {
        WordScales x = full();
        Check.sayAll(x, "A+a");
        String before = Check.allTold(x);
        Check.due("image(0)", x.image(0), 1);
        Check.due("image(1)", x.image(1), 1);
        Check.same("image changes nothing", Check.allTold(x), before);
        Check.due("image(-1)", x.image(-1), OUTSIDE);
        Check.due("image(2)", x.image(2), OUTSIDE);
        spoil(x);
        Check.due("image(0) anew", x.image(0), 1);
        Check.due("restore the other one", x.restore(1), 1);
        Check.same("image(1) is as it was", Check.allTold(x), before);
        Check.due("restore the newer one", x.restore(0), 1);
        Check.due("image(0) is the newer", x.told(130), 1);
    }

    // Promise 29
    private static void restore() {
        WordScales x = full();
        Check.due("restore(0), not kept", x.restore(0), STATE);
        Check.due("restore(-1)", x.restore(-1), OUTSIDE);
        Check.due("restore(2)", x.restore(2), OUTSIDE);
        x.image(1);
        Check.due("restore(0), the other one kept", x.restore(0), STATE);
        String before = Check.allTold(x);
        spoil(x);
        Check.due("restore(1)", x.restore(1), 1);
        Check.same("all is as it was", Check.allTold(x), before);
        Check.due("the wishes are", x.nine(1), 9);
        Check.due("the sights are", x.hollow(), 1);
        x.forget();
        x.seen(4, 8, 1);
        x.image(0);
        spoil(x);
        x.forget();
        x.seen(16, 32, 0);
        x.restore(0);
        Check.due("right and outcome are", x.hollow(), 8);
        x.restore(1);
        spoil(x);
        Check.due("restore(1) twice", x.restore(1), 1);
        Check.same("all is as it was, twice", Check.allTold(x), before);
        Check.sayAll(x, "A+aB");
        Check.due("restore with signs", x.restore(1), 1);
        Check.due("the pad is not kept", x.told(0), 4);
        Check.due("the pad's signs stay", x.fault(), 4);
        x.say('a');
        x.image(0);
        x.wipe();
        x.restore(0);
        Check.due("the pad does not come back", x.told(0), 0);
        Check.sayAll(x, "B-a");
        Check.due("done between", x.done(), 1);
        x.restore(1);
        Check.due("what was done is undone", x.told(21), 77);
    }

    // Promise 30
    private static void told() {
        WordScales x = full();
        x.rhyme(4, 11);
        Check.sayAll(x, "Aa.");
        Check.due("told(0)", x.told(0), 3);
        Check.due("told(1)", x.told(1), 2);
        Check.due("told(2)", x.told(2), 1);
        Check.due("told(10)", x.told(10), 50);
        Check.due("told(11)", x.told(11), 111);
        Check.due("told(21)", x.told(21), 77);
        Check.due("told(23)", x.told(23), 0);
        Check.due("told(130)", x.told(130), 33);
        Check.due("told(131)", x.told(131), 2);
        Check.due("told(132)", x.told(132), Check.set("el"));
        Check.due("told(212)", x.told(212), Check.set("de"));
        int told = 0;
        for (int hundred = -300; hundred < 500; hundred += 100) {
            // An object has but 512 calls.
            x = full();
            for (int what = hundred; what < hundred + 100; what++) {
                told += x.told(what) == OUTSIDE ? 0 : 1;
            }
        }
        Check.due("as many are told", told, Check.TOLD);
        int[] outside = {Integer.MIN_VALUE, -1, 3, 9, 14, 19, 24, 99, 103, 109, 113, 213, 219, 220, Integer.MAX_VALUE};
        for (int place = 0; place < outside.length; place++) {
            Check.due("told(" + outside[place] + ")", x.told(outside[place]), OUTSIDE);
        }
    }

    private static void constants() {
        Check.due("UNKNOWN", WordScales.UNKNOWN, -1);
        Check.due("OUTSIDE", WordScales.OUTSIDE, -2);
        Check.due("STATE", WordScales.STATE, -3);
        Check.due("FULL", WordScales.FULL, -4);
        Check.due("NO", WordScales.NO, -5);
        Check.due("NONE", WordScales.NONE, -6);
        Check.due("GONE", WordScales.GONE, -1000000000000000000L);
    }
}
