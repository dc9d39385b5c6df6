/** Promises 1 to 7: a new object, word, rhyme, part, speaker, say, wipe. */
public final class WordsTest {
    private static final int UNKNOWN = -1, OUTSIDE = -2, FULL = -4;

    public static void main(String[] args) {
        newObject();
        word();
        rhyme();
        part();
        speaker();
        say();
        wipe();
        Check.end();
    }

    // Promise 1
    private static void newObject() {
        WordScales x = new WordScales();
        for (int word = 0; word < 12; word++) {
            Check.due("new: weight of " + word, x.told(100 + 10 * word), 10);
            Check.due("new: kind of " + word, x.told(101 + 10 * word), 0);
            Check.due("new: rhymes of " + word, x.told(102 + 10 * word), 0);
        }
        for (int speaker = 0; speaker < 4; speaker++) {
            Check.due("new: purse of " + speaker, x.told(10 + speaker), 50);
            Check.due("new: has of " + speaker, x.told(20 + speaker), 0);
        }
        Check.due("new: signs", x.told(0), 0);
        Check.due("new: wishes", x.told(1), 0);
        Check.due("new: sights", x.told(2), 0);
        Check.due("new: restore(0)", x.restore(0), -3);
        Check.due("new: restore(1)", x.restore(1), -3);
        Check.due("new: hollow", x.hollow(), 4095);
        new WordScales().word(0, 99, 2);
        Check.due("new: another object's word", x.told(100), 10);
    }

    // Promise 2
    private static void word() {
        WordScales x = new WordScales();
        Check.due("word: first weight", x.word(0, 0, 2), 10);
        Check.due("word: second weight", x.word(0, 99, 1), 0);
        Check.due("word: third weight", x.word(0, 7, 0), 99);
        Check.due("word: weight", x.told(100), 7);
        Check.due("word: kind", x.told(101), 0);
        Check.due("word: last word", x.word(11, 1, 2), 10);
        Check.due("word: kind of the last", x.told(211), 2);
        Check.due("word: others stay", x.told(110), 10);
        String before = Check.allTold(x);
        Check.due("word -1", x.word(-1, 1, 1), UNKNOWN);
        Check.due("word 12", x.word(12, 1, 1), UNKNOWN);
        Check.due("word 12 and weight 100", x.word(12, 100, 3), UNKNOWN);
        Check.due("weight -1", x.word(0, -1, 1), OUTSIDE);
        Check.due("weight 100", x.word(0, 100, 1), OUTSIDE);
        Check.due("kind -1", x.word(0, 1, -1), OUTSIDE);
        Check.due("kind 3", x.word(0, 1, 3), OUTSIDE);
        Check.due("word least", x.word(Integer.MIN_VALUE, 1, 1), UNKNOWN);
        Check.due("word most", x.word(Integer.MAX_VALUE, 1, 1), UNKNOWN);
        Check.same("word: refused changes nothing", Check.allTold(x), before);
    }

    // Promise 3
    private static void rhyme() {
        WordScales x = new WordScales();
        Check.due("rhyme(0, 1)", x.rhyme(0, 1), 1);
        Check.due("rhyme(0, 1) again", x.rhyme(0, 1), 1);
        Check.due("rhyme(1, 0)", x.rhyme(1, 0), 1);
        Check.due("rhyme(10, 11)", x.rhyme(10, 11), 1);
        Check.due("rhyme(11, 5)", x.rhyme(11, 5), 2);
        Check.due("rhyme(0, 5): two groups become one", x.rhyme(0, 5), 4);
        Check.due("rhymes of 0", x.told(102), Check.set("bfkl"));
        Check.due("rhymes of 11", x.told(212), Check.set("abfk"));
        Check.due("rhymes of 2", x.told(122), 0);
        String before = Check.allTold(x);
        Check.due("rhyme(1, 1)", x.rhyme(1, 1), UNKNOWN);
        Check.due("rhyme(-1, 1)", x.rhyme(-1, 1), UNKNOWN);
        Check.due("rhyme(12, 1)", x.rhyme(12, 1), UNKNOWN);
        Check.due("rhyme(1, -1)", x.rhyme(1, -1), UNKNOWN);
        Check.due("rhyme(1, 12)", x.rhyme(1, 12), UNKNOWN);
        Check.due("rhyme(12, 12)", x.rhyme(12, 12), UNKNOWN);
        Check.same("rhyme: refused changes nothing", Check.allTold(x), before);
    }

    // Promise 4
    private static void part() {
        WordScales x = new WordScales();
        Check.due("part of one that rhymes with none", x.part(3), 0);
        x.rhyme(0, 1);
        x.rhyme(1, 2);
        x.rhyme(2, 11);
        Check.due("part(1)", x.part(1), 3);
        Check.due("rhymes of 1", x.told(112), 0);
        Check.due("rhymes of 0: the others still do", x.told(102), Check.set("cl"));
        Check.due("rhymes of 11", x.told(212), Check.set("ac"));
        Check.due("part(1) again", x.part(1), 0);
        Check.due("rhyme anew", x.rhyme(1, 4), 1);
        Check.due("part(-1)", x.part(-1), UNKNOWN);
        Check.due("part(12)", x.part(12), UNKNOWN);
        Check.due("rhymes of 1 and 4", x.told(112), Check.set("e"));
    }

    // Promise 5
    private static void speaker() {
        WordScales x = new WordScales();
        Check.due("speaker(0, 0, 4095)", x.speaker(0, 0, 4095), 50);
        Check.due("speaker(0, 999, 0)", x.speaker(0, 999, 0), 0);
        Check.due("speaker(0, 5, 3)", x.speaker(0, 5, 3), 999);
        Check.due("speaker(3, 7, 2048)", x.speaker(3, 7, 2048), 50);
        Check.due("purse of 0", x.told(10), 5);
        Check.due("has of 0", x.told(20), 3);
        Check.due("purse of 3", x.told(13), 7);
        Check.due("has of 3", x.told(23), 2048);
        String before = Check.allTold(x);
        Check.due("speaker -1", x.speaker(-1, 0, 0), UNKNOWN);
        Check.due("speaker 4", x.speaker(4, 0, 0), UNKNOWN);
        Check.due("speaker 4, purse 1000", x.speaker(4, 1000, 4096), UNKNOWN);
        Check.due("purse -1", x.speaker(0, -1, 0), OUTSIDE);
        Check.due("purse 1000", x.speaker(0, 1000, 0), OUTSIDE);
        Check.due("has -1", x.speaker(0, 0, -1), OUTSIDE);
        Check.due("has 4096", x.speaker(0, 0, 4096), OUTSIDE);
        Check.same("speaker: refused changes nothing", Check.allTold(x), before);
    }

    // Promise 6
    private static void say() {
        WordScales x = new WordScales();
        Check.due("say(32)", x.say(32), OUTSIDE);
        Check.due("say(127)", x.say(127), OUTSIDE);
        Check.due("say(-1)", x.say(-1), OUTSIDE);
        Check.due("say: nothing was said", x.told(0), 0);
        Check.due("say(33)", x.say(33), 1);
        Check.due("say(126)", x.say(126), 2);
        for (int sign = 3; sign <= 60; sign++) {
            Check.due("say, sign " + sign, x.say('A'), sign);
        }
        Check.due("say on a full pad", x.say('A'), FULL);
        Check.due("say, outside on a full pad", x.say(127), OUTSIDE);
        Check.due("say: signs", x.told(0), 60);
    }

    // Promise 7
    private static void wipe() {
        WordScales x = Check.withText("Zzz");
        Check.due("wipe", x.wipe(), 3);
        Check.due("wipe: signs", x.told(0), 0);
        Check.due("wipe: fault", x.fault(), -6);
        Check.due("wipe again", x.wipe(), 0);
        Check.due("say behind wipe", x.say('A'), 1);
        Check.sayAnew(x, "A+aA+b.A+cA+dA+eA+fA+gA+hA+iA+jA+kA+lB+aB+bB+cB+dB+eB+fB+gB+h");
        Check.due("wipe a full pad", x.wipe(), 60);
        Check.due("wipe: nothing was bought", x.told(20), 0);
    }
}
