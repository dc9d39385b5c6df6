/** Promises 8 to 14: fault, judge, behind, worn, said, done, scales. */
public final class DaysTest {
    private static final int UNKNOWN = -1, OUTSIDE = -2, STATE = -3, NO = -5, NONE = -6;

    public static void main(String[] args) {
        fault();
        judgeReasons();
        judgeSentences();
        judgeRefusals();
        behind();
        worn();
        said();
        done();
        scales();
        Check.end();
    }

    private static void faultOf(String text, int want) {
        Check.due("fault of '" + text + "'", Check.withText(text).fault(), want);
    }

    // Promise 8
    private static void fault() {
        faultOf("", NONE);
        faultOf(".", NONE);
        faultOf("..", NONE);
        faultOf("Aa", NONE);
        faultOf("Dl", NONE);
        faultOf("A+aB-lC>AkDa.", NONE);
        faultOf("A>Aa", NONE);
        faultOf("A", 1);
        faultOf("A+", 2);
        faultOf("A-", 2);
        faultOf("A>", 2);
        faultOf("A>B", 3);
        faultOf("AaB", 3);
        faultOf("E", 0);
        faultOf("@", 0);
        faultOf("a", 0);
        faultOf("+", 0);
        faultOf("!", 0);
        faultOf("~", 0);
        faultOf("Am", 1);
        faultOf("A`", 1);
        faultOf("AA", 1);
        faultOf("A.", 1);
        faultOf("A+A", 2);
        faultOf("A+m", 2);
        faultOf("A-.", 2);
        faultOf("A++a", 2);
        faultOf("A--a", 2);
        faultOf("A-+a", 2);
        faultOf("A+-a", 2);
        faultOf("A->Ba", 2);
        faultOf("A>>Ba", 2);
        faultOf("A>BCa", 3);
        faultOf("Aa.A-lB", 7);
        faultOf("A>a", 2);
        faultOf("A>E", 2);
        faultOf("A>BB", 3);
        faultOf("A>B+", 3);
        faultOf("Aaa", 2);
        faultOf("AaEA", 2);
        faultOf(".A+a,", 4);
        WordScales x = new WordScales();
        for (int sign = 0; sign < 60; sign++) {
            x.say('.');
        }
        Check.due("fault of a full pad", x.fault(), NONE);
        x.wipe();
        for (int sign = 0; sign < 29; sign++) {
            Check.sayAll(x, "Aa");
        }
        Check.sayAll(x, "A>");
        Check.due("fault at the end of a full pad", x.fault(), 60);
        x.say('B');
        Check.due("fault stays when a sign is refused", x.fault(), 60);
    }

    /** A: 50 grains, has a, b. B: 5, has b. C: 995, has l. D: 999, has all. Words weigh 10. */
    private static WordScales town(String text) {
        WordScales x = new WordScales();
        x.speaker(0, 50, Check.set("ab"));
        x.speaker(1, 5, Check.set("b"));
        x.speaker(2, 995, Check.set("l"));
        x.speaker(3, 999, 4095);
        Check.kinds(x, "tdssssssssst", 10);
        Check.sayAll(x, text);
        return x;
    }

    private static void judged(String text, int act, int why) {
        WordScales x = town(text);
        Check.due("judge(0) of '" + text + "'", x.judge(0), act);
        Check.due("judge(1) of '" + text + "'", x.judge(1), why);
        if (act != NONE) {
            Check.due("judge(2) of '" + text + "'", x.judge(2), STATE);
        }
    }

    // Promise 9: which act, why
    private static void judgeReasons() {
        judged("", NONE, NONE);
        judged("A+c", NONE, NONE);
        judged("A+a", 0, 1);
        judged("A+cA+c", 1, 1);
        judged("B+b", 0, 1);
        judged("B+a", 0, 3);
        judged("D+a", 0, 1);
        judged("A-c", 0, 2);
        judged("A-aA-a", 1, 2);
        judged("Ac", 0, 2);
        judged("AaAbBa", 2, 2);
        judged("A>Bb", 0, 1);
        judged("A>Cb", NONE, NONE);
        judged("A>CbAb", 1, 2);
        judged("A>Bc", 0, 2);
        judged("A>Ca", NONE, NONE);
        judged("A>Aa", 0, 1);
        judged("A>Ac", 0, 2);
        judged("C>Bb", 0, 1);
        judged("D-a", 0, 4);
        judged("C-l", 0, 4);
        judged(".", 0, 5);
        judged("Aa.", 1, 5);
        judged("AaAb.", NONE, NONE);
        judged("AaAb..", 3, 5);
        judged("AaD+aA+aAl.", 1, 1);
        judged("A+cA+dA+eA+fA+gA+h", 5, 3);
        WordScales x = town("C-l");
        x.word(11, 9, 0);
        Check.due("judge: 995 and 4 are 999", x.judge(1), NONE);
        x.speaker(0, 10, 0);
        Check.sayAnew(x, "A+a");
        Check.due("judge: a purse that just does", x.judge(1), NONE);
        x.speaker(0, 9, 0);
        Check.due("judge: a purse of 1 too little", x.judge(1), 3);
        x.word(0, 0, 0);
        x.speaker(0, 0, 0);
        Check.due("judge: what weighs nothing costs nothing", x.judge(1), NONE);
    }

    /** D speaks the words, and ends. */
    private static void sentence(String words, boolean is) {
        StringBuilder text = new StringBuilder();
        for (int place = 0; place < words.length(); place++) {
            text.append('D').append(words.charAt(place));
        }
        text.append('.');
        WordScales x = town(text.toString());
        Check.due("sentence '" + words + "': why", x.judge(1), is ? NONE : 5);
        Check.due("sentence '" + words + "': ended", x.judge(2), is ? 1 : STATE);
    }

    // Promise 9: sentences (a, l things; b a deed; all others sorts)
    private static void judgeSentences() {
        sentence("", false);
        sentence("a", false);
        sentence("b", false);
        sentence("c", false);
        sentence("ab", true);
        sentence("ba", false);
        sentence("aa", false);
        sentence("bb", false);
        sentence("cab", true);
        sentence("cccdab", true);
        sentence("acb", false);
        sentence("abc", false);
        sentence("aba", true);
        sentence("abl", true);
        sentence("abca", true);
        sentence("abccda", true);
        sentence("cabca", true);
        sentence("abaa", false);
        sentence("abac", false);
        sentence("abab", false);
        sentence("abb", false);
        sentence("abcb", false);
        sentence("abcc", false);
        sentence("caab", false);
        sentence("cc", false);
        sentence("ca", false);
        sentence("cb", false);
        WordScales x = town("");
        Check.due("no sentences", x.judge(2), 0);
        Check.sayAnew(x, "AaAb.");
        Check.due("one sentence", x.judge(2), 1);
        Check.sayAnew(x, "DcAaBbDcDl.");
        Check.due("a sentence by three", x.judge(2), 1);
        Check.sayAnew(x, "AaAb.Dc");
        Check.due("a sentence and what is begun", x.judge(2), 1);
        Check.sayAnew(x, "AaC-lAb.A>CaCaBb.");
        Check.due("C's purse is full", x.judge(1), 4);
        Check.sayAnew(x, "AaA-aBb.A+aAaAb.");
        Check.due("two sentences between other acts", x.judge(2), 2);
        Check.sayAnew(x, "AaAb.AaAbDl.DcDaDbDl.");
        Check.due("three sentences", x.judge(2), 3);
    }

    // Promise 9: refusals
    private static void judgeRefusals() {
        WordScales x = town("A");
        Check.due("judge(-1)", x.judge(-1), OUTSIDE);
        Check.due("judge(3)", x.judge(3), OUTSIDE);
        Check.due("judge(0) with a fault", x.judge(0), NO);
        Check.due("judge(1) with a fault", x.judge(1), NO);
        Check.due("judge(2) with a fault", x.judge(2), NO);
        Check.sayAnew(x, ".A");
        Check.due("judge(2): NO goes ahead of STATE", x.judge(2), NO);
        Check.sayAnew(x, ".E");
        Check.due("judge(0): a fault behind what can not be", x.judge(0), NO);
    }

    // Promise 10
    private static void behind() {
        WordScales x = town("");
        Check.due("behind nothing: purse", x.behind(1, 0), 5);
        Check.due("behind nothing: has", x.behind(1, 1), Check.set("b"));
        Check.sayAnew(x, "A+cAcAcAcA-cA>Ca");
        Check.due("behind: 10 paid, 3 of 7 back", x.behind(0, 0), 43);
        Check.due("behind: has", x.behind(0, 1), Check.set("b"));
        Check.due("behind: who was given", x.behind(2, 1), Check.set("al"));
        Check.due("behind: nothing is paid for what is given", x.behind(2, 0), 995);
        Check.due("behind: who did nothing", x.behind(3, 0), 999);
        Check.due("behind: not so in fact", x.told(10), 50);
        Check.due("behind(-1, 0)", x.behind(-1, 0), UNKNOWN);
        Check.due("behind(4, 2)", x.behind(4, 2), UNKNOWN);
        Check.due("behind(0, -1)", x.behind(0, -1), OUTSIDE);
        Check.due("behind(0, 2)", x.behind(0, 2), OUTSIDE);
        x.say('A');
        Check.due("behind(4, 0) with a fault", x.behind(4, 0), UNKNOWN);
        Check.due("behind(0, 2) with a fault", x.behind(0, 2), OUTSIDE);
        Check.due("behind(0, 0) with a fault", x.behind(0, 0), NO);
        x.say('a');
        Check.due("behind(0, 0) with what can not be", x.behind(0, 0), STATE);
        Check.due("behind(0, 1) with what can not be", x.behind(0, 1), STATE);
    }

    // Promise 11
    private static void worn() {
        WordScales x = town("");
        Check.due("worn by nobody", x.worn(0), 10);
        Check.sayAnew(x, "AaAbDa.AaAaA+cA-c");
        Check.due("worn by two speakers", x.worn(0), 6);
        Check.due("worn once", x.worn(1), 9);
        Check.due("worn by no trade", x.worn(2), 10);
        Check.sayAnew(x, "AaDaAbA-aAbAb");
        Check.due("worn(0)", x.worn(0), 8);
        Check.due("worn(1)", x.worn(1), 7);
        Check.due("worn: not so in fact", x.told(100), 10);
        x.word(0, 1, 0);
        Check.sayAnew(x, "AaAa");
        Check.due("worn: 0 at least", x.worn(0), 0);
        Check.due("worn(-1)", x.worn(-1), UNKNOWN);
        Check.due("worn(12)", x.worn(12), UNKNOWN);
        x.say('A');
        Check.due("worn(12) with a fault", x.worn(12), UNKNOWN);
        Check.due("worn(0) with a fault", x.worn(0), NO);
        x.say('k');
        Check.due("worn(0) with what can not be", x.worn(0), STATE);
        x = town("AaDaAb.");
        Check.due("worn: what can not be at the end", x.worn(0), STATE);
    }

    // Promise 12
    private static void said() {
        WordScales x = town("");
        Check.due("said nothing: in all", x.said(0), 0);
        Check.due("said nothing: in none", x.said(1), 0);
        Check.due("said nothing: heaviest", x.said(2), NONE);
        Check.sayAnew(x, "AaAb.DcA+dDl");
        Check.due("said: in all", x.said(0), 4);
        Check.due("said: in all, asked again", x.said(0), 4);
        Check.due("said: in none", x.said(1), 2);
        Check.due("said: heaviest, the first of several", x.said(2), 0);
        Check.sayAnew(x, "AaAb.");
        Check.due("said: all in a sentence", x.said(1), 0);
        x.word(1, 11, 1);
        x.word(2, 11, 2);
        Check.sayAnew(x, "DaDbDcDb");
        Check.due("said: heaviest, the later one", x.said(2), 1);
        x.word(0, 3, 0);
        x.word(1, 2, 1);
        Check.sayAnew(x, "DaDaDb");
        Check.due("said: as it weighed ahead", x.said(2), 0);
        Check.sayAnew(x, "DbDaDa");
        Check.due("said: heavier behind lighter", x.said(2), 0);
        Check.sayAnew(x, "DaDaDc");
        Check.due("said: heaviest at last", x.said(2), 2);
        x.word(11, 0, 0);
        Check.sayAnew(x, "Dl");
        Check.due("said: one of no weight", x.said(2), 11);
        x.wipe();
        Check.due("said: nothing again", x.said(2), NONE);
        Check.due("said(-1)", x.said(-1), OUTSIDE);
        Check.due("said(3)", x.said(3), OUTSIDE);
        x.say('A');
        Check.due("said(3) with a fault", x.said(3), OUTSIDE);
        Check.due("said(0) with a fault", x.said(0), NO);
        Check.due("said(2) with a fault", x.said(2), NO);
        x.say('k');
        Check.due("said(1) with what can not be", x.said(1), STATE);
    }

    // Promise 13
    private static void done() {
        WordScales x = town("A+cAcAaAb.AaA>CbB-b");
        x.wish(3);
        x.rhyme(0, 1);
        Check.due("done", x.done(), 8);
        Check.due("done: the pad is empty", x.told(0), 0);
        Check.due("done: A's purse", x.told(10), 40);
        Check.due("done: A has", x.told(20), Check.set("ac"));
        Check.due("done: C has", x.told(22), Check.set("bl"));
        Check.due("done: B has", x.told(21), 0);
        Check.due("done: B's purse", x.told(11), 9);
        Check.due("done: weight of a", x.told(100), 8);
        Check.due("done: weight of c", x.told(120), 9);
        Check.due("done: kinds stay", x.told(111), 1);
        Check.due("done: rhymes stay", x.told(102), 2);
        Check.due("done: wishes stay", x.told(1), 1);
        Check.sayAll(x, "Cb.");
        Check.due("done: what was spoken goes", x.judge(1), 5);
        String before = Check.allTold(x);
        Check.due("done with what can not be", x.done(), STATE);
        x.say('A');
        Check.due("done with a fault", x.done(), NO);
        Check.due("done: refused, the signs stay", x.wipe(), 4);
        Check.sayAll(x, "Cb.");
        Check.same("done: refused changes nothing", Check.allTold(x), before);
        x.wipe();
        Check.due("done with nothing", x.done(), 0);
        Check.sayAll(x, "A+d");
        Check.due("done once more", x.done(), 1);
        Check.due("done: bought", x.told(20), Check.set("acd"));
    }

    // Promise 14
    private static void scales() {
        WordScales x = new WordScales();
        for (int word = 0; word < 12; word++) {
            x.word(word, word + 1, 0);
        }
        Check.due("scales of none", x.scales(0), 0);
        Check.due("scales of all", x.scales(4095), 78);
        Check.due("scales of a, l", x.scales(2049), 13);
        x.rhyme(0, 11);
        x.rhyme(1, 2);
        Check.due("scales of a, l, rhyming", x.scales(2049), 12);
        Check.due("scales of a, alone", x.scales(1), 1);
        Check.due("scales of two groups", x.scales(Check.set("abcl")), 15);
        Check.due("scales of two groups and one", x.scales(Check.set("abcdl")), 19);
        Check.due("scales: the heaviest in the set", x.scales(Check.set("ab")), 3);
        Check.due("scales of all, rhyming", x.scales(4095), 75);
        x.word(0, 99, 0);
        Check.due("scales: the heaviest is first", x.scales(2049), 99);
        x.part(0);
        Check.due("scales behind parting", x.scales(2049), 111);
        Check.due("scales(-1)", x.scales(-1), OUTSIDE);
        Check.due("scales(4096)", x.scales(4096), OUTSIDE);
        x.say('A');
        Check.due("scales with a fault on the pad", x.scales(2), 2);
    }
}
