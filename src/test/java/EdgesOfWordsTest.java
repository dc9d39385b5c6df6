/** Promises 1 to 7 at their edges; each function stands for the document's sentence that is quoted above it. */
public final class EdgesOfWordsTest {
    private static final int OUTSIDE = -2, FULL = -4, NONE = -6;
    private static final int LAST_WORD = 11, LAST_SPEAKER = 3, MOST_SIGNS = 60;

    public static void main(String[] args) {
        allAreThingsOfTenGrains();
        nobodyHasAny();
        nothingElseIsThere();
        wordsFromAToL();
        weightFromNothingTo99();
        kindFromThingToSort();
        whichWeightItWas();
        rhymesWithNoneAtFirst();
        rhymesWithAllWithWhichThatOneDoes();
        rhymesAlreadyAndAgain();
        rhymesWithNoneAnyMore();
        speakersFromAToD();
        purseFromNothingTo999();
        hasNoneToAll();
        anyNumberMayHaveTheSame();
        setsAreBits();
        signsFrom33To126();
        padOfSixtySigns();
        signsGo();
        aSignSaidChangesTheFault();
        theLastOf512Calls();
        Check.end();
    }

    // 1: "All WORDS are things of ten grains"
    private static void allAreThingsOfTenGrains() {
        WordScales x = new WordScales();
        for (int word = 0; word <= LAST_WORD; word++) {
            Check.due("new: weight of " + word, x.told(100 + 10 * word), 10);
            Check.due("new: worn weight of " + word, x.worn(word), 10);
            Check.due("new: kind of " + word, x.told(101 + 10 * word), 0);
        }
        Check.due("new: all on the scales", x.scales(4095), 120);
    }

    // 1: "nobody has any"; "(0 to 999; 50 at first)"
    private static void nobodyHasAny() {
        WordScales x = new WordScales();
        for (int speaker = 0; speaker <= LAST_SPEAKER; speaker++) {
            Check.due("new: has of " + speaker, x.told(20 + speaker), 0);
            Check.due("new: has of " + speaker + ", behind", x.behind(speaker, 1), 0);
            Check.due("new: purse of " + speaker, x.told(10 + speaker), 50);
            Check.due("new: sentences of " + speaker, x.says(speaker, 2), 0);
        }
    }

    // 1: what a new object has none of: signs, WISHES, SIGHTS, IMAGES
    private static void nothingElseIsThere() {
        Check.due("new: wipe", new WordScales().wipe(), 0);
        Check.due("new: unwish", new WordScales().unwish(), 0);
        Check.due("new: forget", new WordScales().forget(), 0);
        Check.due("new: restore(0)", new WordScales().restore(0), -3);
        Check.due("new: restore(1)", new WordScales().restore(1), -3);
        Check.due("new: a first sign", new WordScales().say('.'), 1);
        Check.due("new: a first wish", new WordScales().wish(1), 1);
        Check.due("new: a first sight", new WordScales().seen(1, 2, 0), 1);
    }

    // "WORDS 0 to 11 (a to l)"
    private static void wordsFromAToL() {
        WordScales x = new WordScales();
        x.speaker(0, 999, 0);
        Check.due("the first word", x.word(0, 1, 0), 10);
        Check.due("the last word", x.word(LAST_WORD, 2, 0), 10);
        Check.sayAll(x, "A+a");
        Check.due("a is word 0: weight", x.behind(0, 0), 998);
        Check.due("a is word 0: bit", x.behind(0, 1), 1);
        Check.sayAnew(x, "A+l");
        Check.due("l is word 11: weight", x.behind(0, 0), 997);
        Check.due("l is word 11: bit", x.behind(0, 1), 2048);
        Check.sayAnew(x, "A+m");
        Check.due("m is no word", x.fault(), 2);
        Check.sayAnew(x, "A+`");
        Check.due("what stands ahead of a is no word", x.fault(), 2);
    }

    // 2: "a WEIGHT (0 to 99 grains"
    private static void weightFromNothingTo99() {
        for (int word = 0; word <= LAST_WORD; word += LAST_WORD) {
            WordScales x = new WordScales();
            x.word(word, 0, 0);
            Check.due("weight 0 of " + word, x.told(100 + 10 * word), 0);
            Check.due("weight 0 of " + word + " on the scales", x.scales(4095), 110);
            x.word(word, 99, 0);
            Check.due("weight 99 of " + word, x.told(100 + 10 * word), 99);
            Check.due("weight 99 of " + word + " on the scales", x.scales(4095), 209);
        }
    }

    // 2: "a KIND (0 a thing, 1 a deed, 2 a sort; 0 at first)"
    private static void kindFromThingToSort() {
        for (int word = 0; word <= LAST_WORD; word += LAST_WORD) {
            for (int kind = 0; kind <= 2; kind++) {
                WordScales x = new WordScales();
                Check.due("word " + word + " of kind " + kind, x.word(word, 10, kind), 10);
                Check.due("kind of " + word, x.told(101 + 10 * word), kind);
                Check.due("kind of " + word + ": weight is no other", x.told(100 + 10 * word), 10);
            }
        }
    }

    // 2: "which WEIGHT it was"
    private static void whichWeightItWas() {
        WordScales x = new WordScales();
        Check.due("it was as at first", x.word(4, 0, 0), 10);
        Check.due("it was nothing", x.word(4, 99, 0), 0);
        Check.due("it was the most", x.word(4, 99, 0), 99);
        Check.due("it was the same", x.word(4, 10, 0), 99);
        x.speaker(0, 0, 16);
        Check.sayAll(x, "Ae");
        Check.due("it was not worn yet", x.word(4, 10, 0), 10);
        x.done();
        Check.due("it was worn", x.word(4, 1, 0), 9);
    }

    // "RHYMES with some others (with none at first"
    private static void rhymesWithNoneAtFirst() {
        WordScales x = new WordScales();
        for (int word = 0; word <= LAST_WORD; word++) {
            Check.due("new: rhymes of " + word, x.told(102 + 10 * word), 0);
            Check.due("new: part(" + word + ")", x.part(word), 0);
        }
    }

    // "who rhymes with one rhymes with all with which that one does"; 3: "(and all that do with either)"
    private static void rhymesWithAllWithWhichThatOneDoes() {
        WordScales x = new WordScales();
        for (int word = 1; word <= LAST_WORD; word++) {
            Check.due("rhyme(" + (word - 1) + ", " + word + ")", x.rhyme(word - 1, word), word);
        }
        for (int word = 0; word <= LAST_WORD; word++) {
            Check.due("all rhyme, but not with themselves: " + word, x.told(102 + 10 * word), 4095 - (1 << word));
        }
        Check.due("all that rhyme weigh as one", x.scales(4095), 10);
        WordScales y = new WordScales();
        y.rhyme(0, 1);
        y.rhyme(11, 10);
        y.rhyme(10, 9);
        Check.due("two groups, the first one with more", y.rhyme(0, 9), 4);
        Check.due("rhymes of one in the first group", y.told(112), Check.set("ajkl"));
        Check.due("rhymes of one in the other group", y.told(202), Check.set("abjl"));
        Check.due("one that was named nowhere rhymes with none", y.told(122), 0);
    }

    // 3: "how many do with the first one then", if they did already
    private static void rhymesAlreadyAndAgain() {
        WordScales x = new WordScales();
        x.rhyme(0, 1);
        x.rhyme(1, 2);
        Check.due("they did already", x.rhyme(0, 1), 2);
        Check.due("they did by another", x.rhyme(0, 2), 2);
        Check.due("they did, the other way about", x.rhyme(2, 0), 2);
        x.part(0);
        Check.due("they did once", x.rhyme(0, 2), 2);
    }

    // 4: "RHYMES with none any more (the others still do with each other): with how many it did"
    private static void rhymesWithNoneAnyMore() {
        WordScales x = new WordScales();
        x.rhyme(3, 8);
        Check.due("part one of two", x.part(3), 1);
        Check.due("of two, the other one is alone", x.part(8), 0);
        for (int word = 1; word <= LAST_WORD; word++) {
            x.rhyme(0, word);
        }
        for (int word = 0; word <= LAST_WORD; word++) {
            Check.due("part(" + word + ") of all", x.part(word), LAST_WORD - word);
            Check.due("rhymes of " + word + " behind", x.told(102 + 10 * word), 0);
            Check.due("rhymes of the last one behind", x.told(212), 2047 & -(2 << word));
        }
        Check.due("they weigh apart again", x.scales(4095), 120);
    }

    // "SPEAKERS 0 to 3 (A to D), all of whom are there"
    private static void speakersFromAToD() {
        WordScales x = new WordScales();
        Check.due("the first speaker", x.speaker(0, 11, 1), 50);
        Check.due("the last speaker", x.speaker(LAST_SPEAKER, 14, 8), 50);
        Check.sayAll(x, "A+bD+a");
        Check.due("A is speaker 0", x.behind(0, 1), 3);
        Check.due("D is speaker 3", x.behind(3, 1), 9);
        Check.due("the others have none", x.behind(1, 1) + x.behind(2, 1), 0);
        Check.sayAnew(x, "E+a");
        Check.due("E is no speaker", x.fault(), 0);
        Check.sayAnew(x, "@+a");
        Check.due("what stands ahead of A is no speaker", x.fault(), 0);
    }

    // 5: "a PURSE (0 to 999; 50 at first)"; "which PURSE it was"
    private static void purseFromNothingTo999() {
        for (int speaker = 0; speaker <= LAST_SPEAKER; speaker++) {
            WordScales x = new WordScales();
            Check.due("purse of " + speaker + " was as at first", x.speaker(speaker, 0, 0), 50);
            Check.due("purse of " + speaker + " is nothing", x.told(10 + speaker), 0);
            Check.due("purse of " + speaker + " was nothing", x.speaker(speaker, 999, 0), 0);
            Check.due("purse of " + speaker + " is the most", x.told(10 + speaker), 999);
            Check.due("purse of " + speaker + " was the most", x.speaker(speaker, 999, 0), 999);
        }
    }

    // 5: "HAS some WORDS (none at first)": the set 0 to 4095
    private static void hasNoneToAll() {
        for (int speaker = 0; speaker <= LAST_SPEAKER; speaker++) {
            WordScales x = new WordScales();
            x.speaker(speaker, 50, 4095);
            Check.due("has all, " + speaker, x.told(20 + speaker), 4095);
            Check.due("has all, " + speaker + ", behind", x.behind(speaker, 1), 4095);
            x.speaker(speaker, 50, 0);
            Check.due("has none again, " + speaker, x.told(20 + speaker), 0);
        }
    }

    // "any number of them may have the same"
    private static void anyNumberMayHaveTheSame() {
        WordScales x = new WordScales();
        Check.sayAll(x, "A+aB+aC+aD+a");
        Check.due("all four buy one word", x.judge(2), 0);
        Check.due("all four have bought it", x.done(), 4);
        for (int speaker = 0; speaker <= LAST_SPEAKER; speaker++) {
            Check.due("has it, " + speaker, x.told(20 + speaker), 1);
            Check.due("has paid for it, " + speaker, x.told(10 + speaker), 40);
            x.speaker(speaker, 0, 4095);
        }
        Check.due("all four have all", x.told(20) & x.told(21) & x.told(22) & x.told(23), 4095);
    }

    // "Sets are bits."
    private static void setsAreBits() {
        WordScales x = new WordScales();
        for (int word = 0; word <= LAST_WORD; word++) {
            x.word(word, word + 1, 0);
            Check.due("the set of " + word + " alone", x.scales(1 << word), word + 1);
        }
        Check.due("the empty set", x.scales(0), 0);
        Check.due("the full set", x.scales(4095), 78);
    }

    // 6: "signs (codes 33 to 126)"
    private static void signsFrom33To126() {
        for (int sign = 0; sign <= 255; sign++) {
            int want = sign < 33 || sign > 126 ? OUTSIDE : 1;
            WordScales x = new WordScales();
            Check.due("say(" + sign + ")", x.say(sign), want);
            Check.due("signs behind say(" + sign + ")", x.told(0), Math.max(want, 0));
        }
    }

    // 6: "a PAD of up to 60 signs"; "A sign more: how many"; "FULL"
    private static void padOfSixtySigns() {
        WordScales x = new WordScales();
        for (int sign = 1; sign <= MOST_SIGNS; sign++) {
            Check.due("sign " + sign, x.say(sign == MOST_SIGNS ? 'E' : '.'), sign);
        }
        Check.due("the sixtieth is on the pad", x.fault(), 59);
        Check.due("a sixty-first", x.say('.'), FULL);
        Check.due("a sixty-first again", x.say('A'), FULL);
        Check.due("they are sixty still", x.told(0), MOST_SIGNS);
        Check.due("the sixtieth is as it was", x.fault(), 59);
        Check.due("another object's pad is not full", new WordScales().say('.'), 1);
    }

    // 7: "Signs go: how many there were"
    private static void signsGo() {
        WordScales x = new WordScales();
        Check.due("none go", x.wipe(), 0);
        x.say('E');
        Check.due("one goes", x.wipe(), 1);
        Check.due("none are left to go", x.wipe(), 0);
        Check.due("no fault is left", x.fault(), NONE);
        for (int sign = 0; sign <= MOST_SIGNS; sign++) {
            x.say('E');
        }
        Check.due("all sixty go", x.wipe(), MOST_SIGNS);
        Check.due("none are told", x.told(0), 0);
        Check.due("there is room again", x.say('.'), 1);
        Check.due("the old signs are not behind it", x.fault(), NONE);
    }

    // "(a sign that is said changes what fault() tells)"
    private static void aSignSaidChangesTheFault() {
        WordScales x = new WordScales();
        int[] faults = {1, 2, NONE, 4, 5, 6, NONE, 7, 7};
        String text = "A+aB>CaEA";
        for (int place = 0; place < text.length(); place++) {
            x.say(text.charAt(place));
            Check.due("fault behind sign " + place, x.fault(), faults[place]);
            x.say(127);
            x.say(32);
            Check.due("fault behind refused signs", x.fault(), faults[place]);
        }
    }

    // "An object is used for at most 512 calls after it has been made"
    private static void theLastOf512Calls() {
        WordScales x = new WordScales();
        for (int call = 1; call < Check.MOST_CALLS; call++) {
            x.word(call % 12, call % 100, call % 3);
        }
        Check.due("the last call", x.word(511 % 12, 0, 0), 511 % 100);
        WordScales y = new WordScales();
        for (int call = 1; call < Check.MOST_CALLS - 1; call++) {
            y.image(call % 2);
        }
        y.restore(1);
        Check.due("the last call behind images", y.scales(4095), 120);
    }
}
