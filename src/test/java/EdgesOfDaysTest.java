/** Promises 8 to 14 at their edges; each function stands for the document's sentence that is quoted above it. */
public final class EdgesOfDaysTest {
    private static final int OUTSIDE = -2, FULL = -4, STATE = -3, NO = -5, NONE = -6;
    private static final int HAS_IT = 1, HAS_IT_NOT = 2, TOO_POOR = 3, TOO_RICH = 4, NO_SENTENCE = 5;
    private static final int MOST_SIGNS = 60;

    public static void main(String[] args) {
        anEmptyPad();
        theFirstSignThatCanNotStandThere();
        ofSeveralTheFirst();
        ifMoreMustCome();
        faultsOnAFullPad();
        buysForItsWeight();
        handsInForHalfOfItCut();
        aPurseOf999();
        oneLessForAll();
        givesAndHasItNoMore();
        givesToHimself();
        theLeastOfTheseReasons();
        isToBeASentence();
        anyNumberOfSorts();
        byWhomever();
        sinceTheLastSuchSign();
        theFirstActThatCanNotBe();
        whatCanNotBeIsNotDone();
        sentencesThatWereEnded();
        behindAtTheEnds();
        wornToNothing();
        saidNothing();
        saidOnAFullPad();
        theHeaviestThatWasSpoken();
        doneWithNothing();
        nothingIsSpokenThen();
        doneWithAFullPad();
        scalesOfNoneAndAll();
        theHeaviestOfThemInTheSet();
        Check.end();
    }

    /** The kinds t, d, s of all words in turn; everybody has them all, and 50 grains. */
    private static WordScales crowd(String text) {
        WordScales x = new WordScales();
        Check.kinds(x, "tdstdstdstds", 10);
        for (int speaker = 0; speaker < 4; speaker++) {
            x.speaker(speaker, 50, 4095);
        }
        Check.sayAll(x, text);
        return x;
    }

    private static void can(String about, WordScales x) {
        Check.due(about + ": why", x.judge(1), NONE);
        Check.due(about + ": which", x.judge(0), NONE);
    }

    private static void canNot(String about, WordScales x, int act, int why) {
        Check.due(about + ": why", x.judge(1), why);
        Check.due(about + ": which", x.judge(0), act);
        Check.due(about + ": sentences", x.judge(2), STATE);
    }

    // 8: "(an empty PAD has no FAULT: no ACTS)"
    private static void anEmptyPad() {
        WordScales x = new WordScales();
        Check.due("empty: fault", x.fault(), NONE);
        Check.due("empty: no act that can not be", x.judge(0), NONE);
        Check.due("empty: no reason", x.judge(1), NONE);
        Check.due("empty: no sentences", x.judge(2), 0);
        Check.due("empty: purse behind", x.behind(3, 0), 50);
        Check.due("empty: has behind", x.behind(3, 1), 0);
        Check.due("empty: worn", x.worn(11), 10);
        Check.due("empty: no acts done", x.done(), 0);
        Check.sayAll(x, "E");
        Check.due("no longer empty: fault", x.fault(), 0);
        x.wipe();
        Check.due("empty again: fault", x.fault(), NONE);
    }

    private static boolean canFollow(String text, char sign) {
        boolean speaker = sign >= 'A' && sign <= 'D';
        boolean word = sign >= 'a' && sign <= 'l';
        switch (text) {
            case "A":
            case ".D":
                return word || sign == '+' || sign == '-' || sign == '>';
            case "A+":
            case "B-":
            case "A>D":
            case "C>C":
                return word;
            case "A>":
                return speaker;
            default:
                return speaker || sign == '.';
        }
    }

    // 8: "the place (from 0 on) of the first sign that can not stand there"
    private static void theFirstSignThatCanNotStandThere() {
        String[] texts = {"", "A", "A+", "B-", "A>", "A>D", "C>C", ".", ".D", "Aa", "A+l", "B-a", "A>Bl"};
        for (String text : texts) {
            for (char sign = 33; sign <= 126; sign++) {
                WordScales x = Check.withText(text + sign);
                boolean refused = x.fault() == text.length();
                String about = "can '" + sign + "' stand behind '" + text + "'";
                Check.due(about, refused ? 0 : 1, canFollow(text, sign) ? 1 : 0);
            }
        }
    }

    // 8: "the first sign": what comes behind it is no matter
    private static void ofSeveralTheFirst() {
        Check.due("fault in EE", Check.withText("EE").fault(), 0);
        Check.due("fault in AEE", Check.withText("AEE").fault(), 1);
        Check.due("fault in A+E+a", Check.withText("A+E+a").fault(), 2);
        Check.due("fault in Aaa, and more must come", Check.withText("AaaA").fault(), 2);
        Check.due("fault in AAa", Check.withText("AAa").fault(), 1);
    }

    // 8: "or the number of signs, if more must come"
    private static void ifMoreMustCome() {
        String[] texts = {"A", "B+", "C-", "D>", "A>B", ".A", "AaA", "A+aA+", "A>AaA>A"};
        for (String text : texts) {
            Check.due("more must come behind " + text, Check.withText(text).fault(), text.length());
            String end = text.endsWith(">") ? "Ba" : "a";
            Check.due("no more must come behind " + text + end, Check.withText(text + end).fault(), NONE);
        }
    }

    // 8: the first and the last place of a full PAD
    private static void faultsOnAFullPad() {
        WordScales x = crowd("Aa".repeat(30));
        Check.due("a full pad without a fault", x.fault(), NONE);
        Check.sayAnew(x, "Aa".repeat(29) + ".E");
        Check.due("a fault at the last place", x.fault(), 59);
        Check.sayAnew(x, "Aa".repeat(29) + ".A");
        Check.due("a full pad, and more must come", x.fault(), MOST_SIGNS);
        Check.due("no more can come", x.say('a'), FULL);
        Check.due("a full pad, and more must come still", x.fault(), MOST_SIGNS);
        x.wipe();
        Check.sayAll(x, "EE" + ".".repeat(58));
        Check.due("a fault at the first place", x.fault(), 0);
    }

    private static WordScales buyer(int weight, int purse) {
        WordScales x = new WordScales();
        x.word(5, weight, 0);
        x.speaker(1, purse, 0);
        Check.sayAll(x, "B+f");
        return x;
    }

    // "+ and a WORD's letter (he buys it for its WEIGHT)"; "3 his PURSE has too little (+)"
    private static void buysForItsWeight() {
        int[] weights = {0, 1, 50, 98, 99};
        for (int weight : weights) {
            WordScales x = buyer(weight, weight);
            can("buys for " + weight + ", all he has", x);
            Check.due("buys for " + weight + ": nothing is left", x.behind(1, 0), 0);
            Check.due("buys for " + weight + ": has it", x.behind(1, 1), 32);
            x = buyer(weight, weight + 1);
            Check.due("buys for " + weight + ": one is left", x.behind(1, 0), 1);
            if (weight > 0) {
                canNot("buys for " + weight + " with one less", buyer(weight, weight - 1), 0, TOO_POOR);
            }
            Check.due("buys for " + weight + " with the most", buyer(weight, 999).behind(1, 0), 999 - weight);
        }
    }

    // "- and one (he hands it in for half its WEIGHT, cut, has it no more)"
    private static void handsInForHalfOfItCut() {
        int[] weights = {0, 1, 2, 3, 98, 99};
        int[] halves = {0, 0, 1, 1, 49, 49};
        for (int place = 0; place < weights.length; place++) {
            WordScales x = new WordScales();
            x.word(0, weights[place], 0);
            x.speaker(3, 0, 1);
            Check.sayAll(x, "D-a");
            can("hands in " + weights[place], x);
            Check.due("hands in " + weights[place] + ": purse", x.behind(3, 0), halves[place]);
            Check.due("hands in " + weights[place] + ": has it no more", x.behind(3, 1), 0);
            Check.due("hands in " + weights[place] + ": it weighs as before", x.worn(0), weights[place]);
            Check.sayAll(x, "D-a");
            canNot("hands in " + weights[place] + " twice", x, 1, HAS_IT_NOT);
        }
    }

    private static WordScales handerIn(int purse, int weight) {
        WordScales x = new WordScales();
        x.word(11, weight, 0);
        x.speaker(2, purse, 2048);
        Check.sayAll(x, "C-l");
        return x;
    }

    // "4 his PURSE would have more than 999 (-)"
    private static void aPurseOf999() {
        Check.due("998 and 1", handerIn(998, 2).behind(2, 0), 999);
        Check.due("998 and 3, cut", handerIn(998, 3).behind(2, 0), 999);
        canNot("998 and 4", handerIn(998, 4), 0, TOO_RICH);
        Check.due("999 and 0", handerIn(999, 0).behind(2, 0), 999);
        Check.due("999 and 1, cut", handerIn(999, 1).behind(2, 0), 999);
        canNot("999 and 2", handerIn(999, 2), 0, TOO_RICH);
        Check.due("950 and 99, cut", handerIn(950, 99).behind(2, 0), 999);
        canNot("951 and 99, cut", handerIn(951, 99), 0, TOO_RICH);
        canNot("999 and 99", handerIn(999, 99), 0, TOO_RICH);
    }

    // "he speaks it: its WEIGHT is 1 less, 0 at least, for all"
    private static void oneLessForAll() {
        int[] weights = {0, 1, 2, 99};
        for (int weight : weights) {
            WordScales x = crowd("AaBa");
            x.word(0, weight, 0);
            Check.due("spoken twice from " + weight, x.worn(0), Math.max(0, weight - 2));
            Check.due("another one is not worn", x.worn(1), 10);
        }
        WordScales x = new WordScales();
        x.speaker(0, 0, 1);
        x.speaker(1, 9, 0);
        Check.sayAll(x, "B+a");
        canNot("what is not worn costs ten", x, 0, TOO_POOR);
        Check.sayAnew(x, "AaB+a");
        can("what is worn costs nine, for another one", x);
        Check.due("what is worn is paid so", x.behind(1, 0), 0);
        Check.sayAnew(x, "AaAaAaA-a");
        Check.due("what is worn is handed in for half of seven, cut", x.behind(0, 0), 3);
    }

    // "> and a SPEAKER's letter and a WORD's (he gives it to that one ..., has it no more)"
    private static void givesAndHasItNoMore() {
        for (char one = 'A'; one <= 'D'; one++) {
            for (char other = 'A'; other <= 'D'; other++) {
                WordScales x = new WordScales();
                x.speaker(one - 'A', 999, 4095);
                x.speaker(other - 'A', one == other ? 999 : 0, one == other ? 4095 : 0);
                Check.sayAll(x, one + ">" + other + "l");
                if (one == other) {
                    canNot("gives to himself, " + one, x, 0, HAS_IT);
                } else {
                    Check.due(one + " gives to " + other + ": has it no more", x.behind(one - 'A', 1), 2047);
                    Check.due(one + " gives to " + other + ": that one has it", x.behind(other - 'A', 1), 2048);
                    Check.due(one + " gives to " + other + ": purse", x.behind(one - 'A', 0), 999);
                    Check.due(one + " gives to " + other + ": that one's purse", x.behind(other - 'A', 0), 0);
                }
            }
        }
        WordScales x = new WordScales();
        x.speaker(0, 0, 1);
        Check.sayAll(x, "A>BaB>CaC>DaD>AaAa");
        can("gives it round", x);
        Check.due("gives it round: has it again", x.behind(0, 1), 1);
    }

    // "that one - who may be himself -": no FAULT, and then it is there already or not there
    private static void givesToHimself() {
        WordScales x = new WordScales();
        x.speaker(1, 0, 4);
        Check.sayAll(x, "B>Bc");
        Check.due("gives to himself: no fault", x.fault(), NONE);
        canNot("gives to himself what he has", x, 0, HAS_IT);
        Check.sayAnew(x, "B>Bd");
        canNot("gives to himself what he has not", x, 0, HAS_IT_NOT);
    }

    // "An ACT can not be for the least of these reasons"
    private static void theLeastOfTheseReasons() {
        WordScales x = new WordScales();
        x.word(0, 99, 0);
        x.speaker(0, 0, 1);
        x.speaker(1, 999, 0);
        x.speaker(2, 0, 1);
        Check.sayAll(x, "A+a");
        canNot("has it already, and has too little", x, 0, HAS_IT);
        Check.sayAnew(x, "B>Aa");
        canNot("the other one has it, and he has it not", x, 0, HAS_IT);
        Check.sayAnew(x, "A>Ca");
        canNot("the other one has it, and he too", x, 0, HAS_IT);
        Check.sayAnew(x, "B-a");
        canNot("has it not, and would have too much", x, 0, HAS_IT_NOT);
        Check.sayAnew(x, "B>Da");
        canNot("neither has it", x, 0, HAS_IT_NOT);
        Check.sayAnew(x, "Ba");
        canNot("speaks what he has not", x, 0, HAS_IT_NOT);
        Check.sayAnew(x, "D+a");
        canNot("has it not, and has too little", x, 0, TOO_POOR);
    }

    private static String spoken(String kinds) {
        StringBuilder text = new StringBuilder();
        for (int place = 0; place < kinds.length(); place++) {
            text.append((char) ('A' + place % 4)).append("adc".charAt("tds".indexOf(kinds.charAt(place))));
        }
        return text.append('.').toString();
    }

    private static void ended(String kinds, boolean isSentence) {
        WordScales x = crowd("");
        x.word(3, 10, 1);
        Check.sayAll(x, spoken(kinds));
        Check.due("'" + kinds + "': why", x.judge(1), isSentence ? NONE : NO_SENTENCE);
        Check.due("'" + kinds + "': which", x.judge(0), isSentence ? NONE : kinds.length());
        Check.due("'" + kinds + "': sentences", x.judge(2), isSentence ? 1 : STATE);
    }

    // "A SENTENCE is a row of WORDS: any number of sorts, a thing, a deed, and no more, or behind these any number
    // of sorts and a thing": each row of up to six kinds
    private static void isToBeASentence() {
        for (int length = 0, rows = 1; length <= 6; length++, rows *= 3) {
            for (int row = 0; row < rows; row++) {
                StringBuilder kinds = new StringBuilder();
                for (int place = 0, left = row; place < length; place++, left /= 3) {
                    kinds.append("tds".charAt(left % 3));
                }
                ended(kinds.toString(), kinds.toString().matches("s*td(s*t)?"));
            }
        }
    }

    // "any number of sorts": none, and as many as go on the PAD
    private static void anyNumberOfSorts() {
        ended("td", true);
        ended("tdt", true);
        ended("s".repeat(27) + "td", true);
        ended("td" + "s".repeat(26) + "t", true);
        ended("s".repeat(13) + "td" + "s".repeat(13) + "t", true);
        ended("s".repeat(27) + "dt", false);
        ended("td" + "s".repeat(27), false);
        ended("s".repeat(29), false);
    }

    // "what was spoken ..., by whomever"
    private static void byWhomever() {
        WordScales x = crowd("CcBaDbAfDd.");
        can("spoken by four", x);
        Check.due("spoken by four: sentences", x.judge(2), 1);
        Check.sayAnew(x, "CcBaDb.A>AaAfDd.");
        canNot("a word given behind the end", x, 4, HAS_IT);
        Check.sayAnew(x, "AaB-aBb.");
        can("other acts lie between", x);
    }

    // "since the last such sign, or the beginning"; "then nothing is spoken"
    private static void sinceTheLastSuchSign() {
        canNot("the first sign ends nothing", crowd("."), 0, NO_SENTENCE);
        canNot("the second one ends nothing more", crowd("AaAb.."), 3, NO_SENTENCE);
        canNot("a thing alone behind the end", crowd("AaAb.Aa."), 4, NO_SENTENCE);
        canNot("a deed alone behind the end", crowd("AaAb.Ab."), 4, NO_SENTENCE);
        can("two of them", crowd("AaAb.AaAb."));
        canNot("a row too long without an end between", crowd("AaAbAaAb."), 4, NO_SENTENCE);
        can("without an end it need be none", crowd("AbAbAa"));
    }

    // 9: "the first ACT (from 0 on) that can not be, why"
    private static void theFirstActThatCanNotBe() {
        canNot("the first of two", crowd("A+a."), 0, HAS_IT);
        canNot("the first of two, the other way about", crowd(".A+a"), 0, NO_SENTENCE);
        canNot("the first of sixty", crowd(".".repeat(60)), 0, NO_SENTENCE);
        canNot("the last of thirty", crowd("Aa".repeat(28) + "A>Aa"), 28, HAS_IT);
        canNot("an end counts as an act", crowd("AaAb.A+a"), 3, HAS_IT);
        WordScales x = crowd("A+a");
        canNot("it can not be", x, 0, HAS_IT);
        x.speaker(0, 50, 0);
        can("it can be, since he has it no more", x);
        x.speaker(0, 9, 0);
        canNot("it can not be, for another reason", x, 0, TOO_POOR);
    }

    // 10, 11, 12, 13: "STATE, as of judge(2)", and what is so stays
    private static void whatCanNotBeIsNotDone() {
        WordScales x = crowd("A-aAa");
        String before = Check.allTold(x);
        Check.due("can not be: behind", x.behind(0, 0), STATE);
        Check.due("can not be: behind, another speaker", x.behind(3, 1), STATE);
        Check.due("can not be: worn", x.worn(11), STATE);
        Check.due("can not be: said", x.said(2), STATE);
        Check.due("can not be: done", x.done(), STATE);
        Check.same("can not be: nothing is done", Check.allTold(x), before);
        x.say('A');
        Check.due("a fault goes ahead: judge", x.judge(2), NO);
        Check.due("a fault goes ahead: behind", x.behind(0, 0), NO);
        Check.due("a fault goes ahead: worn", x.worn(0), NO);
        Check.due("a fault goes ahead: said", x.said(0), NO);
        Check.due("a fault goes ahead: done", x.done(), NO);
    }

    // 9: "SENTENCES that were ended"
    private static void sentencesThatWereEnded() {
        Check.due("begun, not ended", crowd("AaAb").judge(2), 0);
        Check.due("ended", crowd("AaAb.").judge(2), 1);
        Check.due("as many as go on the pad", crowd("AaAb.".repeat(12)).judge(2), 12);
        WordScales x = crowd("AaAb.");
        Check.due("asked once", x.judge(2), 1);
        Check.due("asked again", x.judge(2), 1);
        x.done();
        Check.due("done ones are no more", x.judge(2), 0);
    }

    // 10: PURSE 0 and 999, HAS none and all
    private static void behindAtTheEnds() {
        WordScales x = new WordScales();
        x.word(0, 99, 0);
        x.speaker(0, 99, 4094);
        x.speaker(3, 950, 1);
        Check.sayAll(x, "A+aD-a");
        Check.due("purse behind: nothing", x.behind(0, 0), 0);
        Check.due("has behind: all", x.behind(0, 1), 4095);
        Check.due("purse behind: the most", x.behind(3, 0), 999);
        Check.due("has behind: none", x.behind(3, 1), 0);
        Check.due("not so in fact", x.told(10), 99);
        Check.due("not so in fact: has", x.told(23), 1);
    }

    // 11: "of a WORD its WEIGHT behind", 0 at least
    private static void wornToNothing() {
        WordScales x = crowd("Al".repeat(30));
        x.word(11, 31, 0);
        Check.due("worn to one", x.worn(11), 1);
        x.word(11, 30, 0);
        Check.due("worn to nothing", x.worn(11), 0);
        x.word(11, 29, 0);
        Check.due("worn to no less", x.worn(11), 0);
        Check.due("the first word is not worn", x.worn(0), 10);
        Check.due("not so in fact", x.told(210), 29);
    }

    // 12: "how many WORDS were spoken in all, how many of them are in no SENTENCE yet"; "NONE"
    private static void saidNothing() {
        WordScales x = crowd("");
        Check.due("empty: said", x.said(0), 0);
        Check.due("empty: in none", x.said(1), 0);
        Check.due("empty: heaviest", x.said(2), NONE);
        Check.sayAll(x, "A-aB-bA+aC-cA>Cc");
        Check.due("only traded: said", x.said(0), 0);
        Check.due("only traded: in none", x.said(1), 0);
        Check.due("only traded: heaviest", x.said(2), NONE);
        Check.sayAnew(x, "Aa");
        Check.due("one: said", x.said(0), 1);
        Check.due("one: in none", x.said(1), 1);
        Check.due("one: heaviest", x.said(2), 0);
        Check.sayAll(x, "Ab.");
        Check.due("ended: said", x.said(0), 2);
        Check.due("ended: in none", x.said(1), 0);
        Check.due("ended: heaviest", x.said(2), 0);
        Check.sayAll(x, "Al");
        Check.due("begun anew: said", x.said(0), 3);
        Check.due("begun anew: in none", x.said(1), 1);
    }

    // 12: as many as go on a full PAD
    private static void saidOnAFullPad() {
        WordScales x = crowd("Al".repeat(30));
        Check.due("thirty: said", x.said(0), 30);
        Check.due("thirty: in none", x.said(1), 30);
        Check.due("thirty: heaviest", x.said(2), 11);
        Check.sayAnew(x, "AaAb.".repeat(12));
        Check.due("twelve sentences: said", x.said(0), 24);
        Check.due("twelve sentences: in none", x.said(1), 0);
    }

    // 12: "the heaviest WORD that was spoken (as it weighed ahead of that; of several the one spoken first; NONE)"
    private static void theHeaviestThatWasSpoken() {
        WordScales x = crowd("AlAa");
        Check.due("of several the first spoken, not the first word", x.said(2), 11);
        x.word(0, 11, 0);
        Check.due("heavier by one", x.said(2), 0);
        x.word(11, 12, 0);
        Check.sayAnew(x, "AlAlAa");
        Check.due("as it weighed ahead of that", x.said(2), 11);
        Check.sayAnew(x, "BaAlAl");
        Check.due("ahead of the first time", x.said(2), 11);
        x.word(11, 13, 0);
        x.word(0, 12, 0);
        Check.sayAnew(x, "AlAlAa");
        Check.due("worn to as much is not heavier", x.said(2), 11);
        x.word(11, 0, 0);
        x.word(0, 0, 0);
        Check.sayAnew(x, "AlAa");
        Check.due("the first of those that weigh nothing", x.said(2), 11);
        x.word(5, 99, 2);
        Check.sayAll(x, "Af");
        Check.due("the most one can weigh", x.said(2), 5);
    }

    // 13: "ACTS": how many
    private static void doneWithNothing() {
        WordScales x = new WordScales();
        String before = Check.allTold(x);
        Check.due("nothing is done", x.done(), 0);
        Check.due("nothing is done again", x.done(), 0);
        Check.same("it is as it was", Check.allTold(x), before);
        Check.sayAll(x, "A+a");
        Check.due("one act is done", x.done(), 1);
        Check.due("it is not done twice", x.done(), 0);
        Check.due("it is so then", x.told(20), 1);
        Check.due("it is paid once", x.told(10), 40);
    }

    // 13: "it is so then (nothing is spoken then, ended or not)"; "(the PAD is empty then)"
    private static void nothingIsSpokenThen() {
        WordScales x = crowd("AaAb.AcAa");
        Check.due("done", x.done(), 5);
        Check.due("the pad is empty", x.told(0), 0);
        Check.due("the pad has no fault", x.fault(), NONE);
        Check.due("nothing is said", x.said(0), 0);
        Check.due("nothing waits for an end", x.said(1), 0);
        Check.due("nothing is heaviest", x.said(2), NONE);
        Check.due("no sentences", x.judge(2), 0);
        Check.due("what was worn stays worn", x.told(100), 8);
        Check.sayAll(x, "Ab.");
        canNot("what was spoken ahead is no part of it", x, 1, NO_SENTENCE);
        Check.sayAnew(x, "AaAb.");
        can("a sentence of its own", x);
    }

    // 13: as many ACTS as go on the PAD
    private static void doneWithAFullPad() {
        WordScales x = crowd("Al".repeat(30));
        Check.due("thirty acts", x.done(), 30);
        Check.due("worn to nothing, in fact", x.told(210), 0);
        Check.due("the pad is empty", x.wipe(), 0);
        Check.sayAll(x, "AaAb.".repeat(12));
        Check.due("ends are acts too", x.done(), 36);
        Check.due("worn to nothing by twelve, in fact", x.told(100), 0);
        Check.due("there is room again", x.say('.'), 1);
    }

    // 14: "what a set of WORDS weighs", "the set 0 to 4095"
    private static void scalesOfNoneAndAll() {
        WordScales x = new WordScales();
        Check.due("none weigh nothing", x.scales(0), 0);
        Check.due("all as at first", x.scales(4095), 120);
        Check.due("all but the last", x.scales(2047), 110);
        Check.due("the last alone", x.scales(2048), 10);
        Check.due("more than all", x.scales(4096), OUTSIDE);
        Check.kinds(x, "tttttttttttt", 99);
        Check.due("the most", x.scales(4095), 1188);
        Check.kinds(x, "tttttttttttt", 0);
        Check.due("all weigh nothing", x.scales(4095), 0);
    }

    // 14: "those that RHYME with each other weigh together as much as the heaviest of them in the set"
    private static void theHeaviestOfThemInTheSet() {
        WordScales x = new WordScales();
        for (int word = 0; word < 12; word++) {
            x.word(word, 8 * word, 0);
            x.rhyme(0, Math.max(1, word));
        }
        for (int set = 0; set < 64; set++) {
            int heaviest = set == 0 ? 0 : 31 - Integer.numberOfLeadingZeros(set);
            Check.due("all rhyme, of the set " + set, x.scales(set), 8 * heaviest);
        }
        Check.due("all rhyme, all in the set", x.scales(4095), 88);
        Check.due("one of no weight alone", x.scales(1), 0);
        x.part(11);
        Check.due("the heaviest has parted", x.scales(4095), 80 + 88);
        x.word(0, 99, 0);
        Check.due("the first one is heaviest", x.scales(2047), 99);
        Check.due("the first one is not in the set", x.scales(2046), 80);
        x.speaker(0, 0, 1024);
        Check.sayAll(x, "Ak");
        Check.due("what is on the pad wears nothing yet", x.scales(1024), 80);
        x.done();
        Check.due("what is done wears", x.scales(1024), 79);
    }
}
