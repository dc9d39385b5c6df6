/** All promises: what refused calls answer, which refusal comes first, and that they change nothing. */
public final class RefusalsTest {
    private static final int UNKNOWN = -1, OUTSIDE = -2, STATE = -3, FULL = -4, NO = -5;
    private static final long REFUSED = -1000000000000000002L;

    // What is kept in the object that is called: nothing; something, with a sound pad; the same with a fault, with an
    // act that can not be, with both; and as much as can be.
    private static final int NEW = 0, BUSY = 1, FAULTY = 2, BROKEN = 3, BOTH = 4, FILLED = 5;
    private static final String[] PADS = {"", "A+aAaAb.B>Cd", "A+aAaA", "A+aAaB-a", "B-aA", "Aa.".repeat(20)};

    private interface Call {
        long on(WordScales x);
    }

    public static void main(String[] args) {
        words();
        rhymes();
        speakers();
        signs();
        judged();
        behind();
        worn();
        said();
        done();
        scales();
        says();
        cheap();
        pool();
        wishes();
        nine();
        sights();
        laid();
        weather();
        synonyms();
        years();
        images();
        told();
        Check.end();
    }

    private static WordScales town(int state) {
        WordScales x = new WordScales();
        if (state != NEW) {
            Check.kinds(x, "tds", 12);
            x.rhyme(0, 7);
            x.speaker(0, 500, 2);
            x.speaker(1, 20, 12);
            x.wish(3072);
            x.seen(7, 56, 2);
            x.image(0);
            x.rhyme(1, 2);
            x.speaker(3, 7, 2048);
            x.wish(5);
            x.seen(64, 128, 2);
        }
        for (int number = 0; state == FILLED && number < 6; number++) {
            x.wish(1 << number);
            x.seen(1, 2, 2);
            x.image(1);
        }
        Check.sayAll(x, PADS[state]);
        return x;
    }

    /** All that later calls can bring to light, asked for in less than 512 calls; the object is spoilt by it. */
    private static String portrait(WordScales x) {
        StringBuilder all = new StringBuilder();
        all.append(Check.allTold(x)).append(x.fault()).append(' ');
        for (int what = 0; what <= 2; what++) {
            all.append(x.judge(what)).append(' ').append(x.said(what)).append(' ').append(x.lay(what)).append(' ');
        }
        for (int speaker = 0; speaker < 4; speaker++) {
            all.append(x.behind(speaker, 0)).append(' ').append(x.behind(speaker, 1)).append(' ');
            all.append(x.says(speaker, 3)).append(' ').append(x.cheap(speaker, 3, 1)).append(' ');
        }
        for (int word = 0; word < 12; word++) {
            all.append(x.worn(word)).append(' ').append(x.scales(4095 >> word)).append(' ');
        }
        all.append(x.pool(2, 1)).append(' ').append(x.year(77, 99, 0)).append(' ');
        all.append(x.year(78, 99, 2)).append(' ');
        all.append(x.done()).append(' ');
        for (int time = 0; time < 3; time++) {
            all.append(Check.allTold(x)).append(x.nine(1)).append(' ').append(x.hollow()).append(' ');
            all.append(x.wish(1 << time)).append(' ').append(x.nine(1)).append(' ');
            all.append(x.seen(8 << time, 2048, 2)).append(' ').append(x.hollow()).append(' ');
            all.append(x.restore(time == 0 ? 1 : 0)).append(' ');
        }
        return all.append(x.say('A')).append(' ').append(x.fault()).append(' ').append(x.wipe()).toString();
    }

    private static void refused(int state, String about, Call call, long want) {
        WordScales x = town(state);
        Check.due(about + ", in state " + state, call.on(x), want);
        Check.due(about + ", in state " + state + ", again", call.on(x), want);
        Check.same(about + ", in state " + state + ", changes nothing", portrait(x), portrait(town(state)));
    }

    /** In each state: no state goes ahead of these refusals. */
    private static void always(String about, Call call, long want) {
        for (int state = NEW; state <= FILLED; state++) {
            refused(state, about, call, want);
        }
    }

    // "UNKNOWN -1 (there is no such WORD, SPEAKER), OUTSIDE -2 (another number is not as told)"
    private static void words() {
        for (int bad : Check.outside(0, 11)) {
            always("word(" + bad + ", 5, 1)", x -> x.word(bad, 5, 1), UNKNOWN);
            always("word(" + bad + ", 100, 3)", x -> x.word(bad, 100, 3), UNKNOWN);
        }
        for (int bad : Check.outside(0, 99)) {
            always("word(0, " + bad + ", 1)", x -> x.word(0, bad, 1), OUTSIDE);
            always("word(11, " + bad + ", 3)", x -> x.word(11, bad, 3), OUTSIDE);
        }
        for (int bad : Check.outside(0, 2)) {
            always("word(0, 5, " + bad + ")", x -> x.word(0, 5, bad), OUTSIDE);
        }
    }

    // 3: "UNKNOWN: both, both one"; 4: "UNKNOWN"
    private static void rhymes() {
        for (int bad : Check.outside(0, 11)) {
            always("rhyme(" + bad + ", 0)", x -> x.rhyme(bad, 0), UNKNOWN);
            always("rhyme(0, " + bad + ")", x -> x.rhyme(0, bad), UNKNOWN);
            always("rhyme(" + bad + ", the same)", x -> x.rhyme(bad, bad), UNKNOWN);
            always("part(" + bad + ")", x -> x.part(bad), UNKNOWN);
        }
        always("rhyme(-1, 12)", x -> x.rhyme(-1, 12), UNKNOWN);
        for (int word = 0; word < 12; word++) {
            int one = word;
            always("rhyme(" + one + ", the same)", x -> x.rhyme(one, one), UNKNOWN);
        }
    }

    // 5: "UNKNOWN; OUTSIDE"
    private static void speakers() {
        for (int bad : Check.outside(0, 3)) {
            always("speaker(" + bad + ", 5, 5)", x -> x.speaker(bad, 5, 5), UNKNOWN);
            always("speaker(" + bad + ", 1000, 4096)", x -> x.speaker(bad, 1000, 4096), UNKNOWN);
        }
        for (int bad : Check.outside(0, 999)) {
            always("speaker(0, " + bad + ", 5)", x -> x.speaker(0, bad, 5), OUTSIDE);
        }
        for (int bad : Check.outside(0, 4095)) {
            always("speaker(3, 5, " + bad + ")", x -> x.speaker(3, 5, bad), OUTSIDE);
        }
    }

    // 6: "OUTSIDE; FULL"
    private static void signs() {
        for (int bad : Check.outside(33, 126)) {
            always("say(" + bad + ")", x -> x.say(bad), OUTSIDE);
        }
        int[] like = {'a' + 256, 'A' + 65536, 0, '\n', 255};
        for (int bad : like) {
            always("say(" + bad + ")", x -> x.say(bad), OUTSIDE);
        }
        refused(FILLED, "say('A')", x -> x.say('A'), FULL);
        refused(FILLED, "say('.')", x -> x.say('.'), FULL);
        refused(FILLED, "say('!')", x -> x.say('!'), FULL);
    }

    // 9: "OUTSIDE; NO: there is a FAULT; STATE (2): some ACT can not be"
    private static void judged() {
        for (int bad : Check.outside(0, 2)) {
            always("judge(" + bad + ")", x -> x.judge(bad), OUTSIDE);
        }
        for (int good = 0; good <= 2; good++) {
            int what = good;
            refused(FAULTY, "judge(" + what + ")", x -> x.judge(what), NO);
            refused(BOTH, "judge(" + what + ")", x -> x.judge(what), NO);
        }
        refused(BROKEN, "judge(2)", x -> x.judge(2), STATE);
        refused(FILLED, "judge(2)", x -> x.judge(2), STATE);
        Check.due("judge(0) where some act can not be", town(BROKEN).judge(0), 2);
        Check.due("judge(1) where some act can not be", town(BROKEN).judge(1), 2);
    }

    /** By the pad: a fault goes ahead of an act that can not be. */
    private static void byThePad(String about, Call call) {
        refused(FAULTY, about, call, NO);
        refused(BOTH, about, call, NO);
        refused(BROKEN, about, call, STATE);
        refused(FILLED, about, call, STATE);
    }

    // 10: "UNKNOWN; OUTSIDE; NO, STATE, as of judge(2)"
    private static void behind() {
        for (int bad : Check.outside(0, 3)) {
            always("behind(" + bad + ", 0)", x -> x.behind(bad, 0), UNKNOWN);
            always("behind(" + bad + ", 2)", x -> x.behind(bad, 2), UNKNOWN);
        }
        for (int bad : Check.outside(0, 1)) {
            always("behind(0, " + bad + ")", x -> x.behind(0, bad), OUTSIDE);
        }
        for (int speaker = 0; speaker < 4; speaker++) {
            int one = speaker;
            byThePad("behind(" + one + ", 0)", x -> x.behind(one, 0));
            byThePad("behind(" + one + ", 1)", x -> x.behind(one, 1));
        }
    }

    // 11: "UNKNOWN; NO, STATE, likewise"
    private static void worn() {
        for (int bad : Check.outside(0, 11)) {
            always("worn(" + bad + ")", x -> x.worn(bad), UNKNOWN);
        }
        byThePad("worn(0)", x -> x.worn(0));
        byThePad("worn(11)", x -> x.worn(11));
    }

    // 12: "OUTSIDE; NO, STATE, likewise"
    private static void said() {
        for (int bad : Check.outside(0, 2)) {
            always("said(" + bad + ")", x -> x.said(bad), OUTSIDE);
        }
        byThePad("said(0)", x -> x.said(0));
        byThePad("said(1)", x -> x.said(1));
        byThePad("said(2)", x -> x.said(2));
    }

    // 13: "NO, STATE, likewise"
    private static void done() {
        byThePad("done()", x -> x.done());
    }

    // 14: "OUTSIDE: the set 0 to 4095"
    private static void scales() {
        for (int bad : Check.outside(0, 4095)) {
            always("scales(" + bad + ")", x -> x.scales(bad), OUTSIDE);
        }
    }

    // 15: "UNKNOWN; OUTSIDE"
    private static void says() {
        for (int bad : Check.outside(0, 3)) {
            always("says(" + bad + ", 2)", x -> x.says(bad, 2), UNKNOWN);
            always("says(" + bad + ", 9)", x -> x.says(bad, 9), UNKNOWN);
        }
        for (int bad : Check.outside(1, 8)) {
            always("says(3, " + bad + ")", x -> x.says(3, bad), OUTSIDE);
        }
    }

    // 16: "UNKNOWN; OUTSIDE"
    private static void cheap() {
        for (int bad : Check.outside(0, 3)) {
            always("cheap(" + bad + ", 2, 0)", x -> x.cheap(bad, 2, 0), UNKNOWN);
            always("cheap(" + bad + ", 0, 2)", x -> x.cheap(bad, 0, 2), UNKNOWN);
        }
        for (int bad : Check.outside(1, 8)) {
            always("cheap(0, " + bad + ", 0)", x -> x.cheap(0, bad, 0), OUTSIDE);
            always("cheap(0, " + bad + ", 1)", x -> x.cheap(0, bad, 1), OUTSIDE);
        }
        for (int bad : Check.outside(0, 1)) {
            always("cheap(0, 2, " + bad + ")", x -> x.cheap(0, 2, bad), OUTSIDE);
        }
    }

    // 17: "OUTSIDE"
    private static void pool() {
        for (int bad : Check.outside(1, 8)) {
            always("pool(" + bad + ", 0)", x -> x.pool(bad, 0), OUTSIDE);
            always("pool(" + bad + ", 1)", x -> x.pool(bad, 1), OUTSIDE);
        }
        for (int bad : Check.outside(0, 1)) {
            always("pool(2, " + bad + ")", x -> x.pool(2, bad), OUTSIDE);
        }
    }

    // 18: "OUTSIDE: the set 0 to 4095; FULL"
    private static void wishes() {
        for (int bad : Check.outside(0, 4095)) {
            always("wish(" + bad + ")", x -> x.wish(bad), OUTSIDE);
        }
        refused(FILLED, "wish(0)", x -> x.wish(0), FULL);
        refused(FILLED, "wish(4095)", x -> x.wish(4095), FULL);
    }

    // 20: "OUTSIDE"
    private static void nine() {
        for (int bad : Check.outside(0, 1)) {
            always("nine(" + bad + ")", x -> x.nine(bad), OUTSIDE);
        }
    }

    // 21: "OUTSIDE: sets 0 to 4095, not as many, some WORD on both sides; how 0 to 2; FULL"
    private static void sights() {
        for (int bad : Check.outside(0, 4095)) {
            always("seen(" + bad + ", 1, 0)", x -> x.seen(bad, 1, 0), OUTSIDE);
            always("seen(1, " + bad + ", 0)", x -> x.seen(1, bad, 0), OUTSIDE);
            always("seen(" + bad + ", the same, 0)", x -> x.seen(bad, bad, 0), OUTSIDE);
        }
        // As many on both sides, and none on both, but one is no set.
        always("seen(4096, 1, 0)", x -> x.seen(4096, 1, 0), OUTSIDE);
        always("seen(1, 4096, 0)", x -> x.seen(1, 4096, 0), OUTSIDE);
        always("seen(4095, 0, 0)", x -> x.seen(4095, 0, 0), OUTSIDE);
        always("seen(0, 1, 2)", x -> x.seen(0, 1, 2), OUTSIDE);
        always("seen(3, 5, 2)", x -> x.seen(3, 5, 2), OUTSIDE);
        always("seen(2048, 2048, 2)", x -> x.seen(2048, 2048, 2), OUTSIDE);
        for (int bad : Check.outside(0, 2)) {
            always("seen(1, 2, " + bad + ")", x -> x.seen(1, 2, bad), OUTSIDE);
        }
        for (int how = 0; how <= 2; how++) {
            int seen = how;
            refused(FILLED, "seen(0, 0, " + seen + ")", x -> x.seen(0, 0, seen), FULL);
            refused(FILLED, "seen(1, 2, " + seen + ")", x -> x.seen(1, 2, seen), FULL);
        }
    }

    // 24: "OUTSIDE"
    private static void laid() {
        for (int bad : Check.outside(0, 2)) {
            always("lay(" + bad + ")", x -> x.lay(bad), OUTSIDE);
        }
    }

    // 25: "OUTSIDE"; "refused with GONE and the refusal"
    private static void weather() {
        for (int bad : Check.outside(0, 40)) {
            always("weather(" + bad + ", 1, 5, 0, 0)", x -> x.weather(bad, 1, 5, 0, 0), REFUSED);
        }
        for (int bad : Check.outside(0, 8)) {
            always("weather(5, " + bad + ", 5, 0, 1)", x -> x.weather(5, bad, 5, 0, 1), REFUSED);
        }
        for (int bad : Check.outside(0, 10)) {
            always("weather(5, 1, " + bad + ", 1, 0)", x -> x.weather(5, 1, bad, 1, 0), REFUSED);
        }
        for (int bad : Check.outside(0, 1)) {
            always("weather(5, 1, 5, " + bad + ", 0)", x -> x.weather(5, 1, 5, bad, 0), REFUSED);
            always("weather(5, 1, 5, 0, " + bad + ")", x -> x.weather(5, 1, 5, 0, bad), REFUSED);
            always("weather(5, 1, 5, 1, " + bad + ")", x -> x.weather(5, 1, 5, 1, bad), REFUSED);
        }
    }

    // 26: "OUTSIDE"
    private static void synonyms() {
        int[] turns = {-1, 0, 1, 99};
        for (int n : turns) {
            for (int bad : Check.outside(0, 40)) {
                always("synonyms(" + bad + ", 3, 7, " + n + ")", x -> x.synonyms(bad, 3, 7, n), OUTSIDE);
            }
            for (int bad : Check.outside(0, 20)) {
                always("synonyms(9, " + bad + ", 40, " + n + ")", x -> x.synonyms(9, bad, 40, n), OUTSIDE);
            }
            for (int bad : Check.outside(4, 40)) {
                always("synonyms(9, 3, " + bad + ", " + n + ")", x -> x.synonyms(9, 3, bad, n), OUTSIDE);
            }
        }
        for (int bad : Check.outside(-1, 99)) {
            always("synonyms(9, 3, 7, " + bad + ")", x -> x.synonyms(9, 3, 7, bad), OUTSIDE);
        }
    }

    // 27: "OUTSIDE"
    private static void years() {
        for (int bad : Check.outside(0, 9999)) {
            always("year(" + bad + ", 1, 0)", x -> x.year(bad, 1, 0), OUTSIDE);
        }
        for (int bad : Check.outside(1, 99)) {
            always("year(0, " + bad + ", 1)", x -> x.year(0, bad, 1), OUTSIDE);
        }
        for (int bad : Check.outside(0, 2)) {
            always("year(0, 1, " + bad + ")", x -> x.year(0, 1, bad), OUTSIDE);
        }
    }

    // 28: "OUTSIDE"; 29: "OUTSIDE; STATE: it was not"
    private static void images() {
        for (int bad : Check.outside(0, 1)) {
            always("image(" + bad + ")", x -> x.image(bad), OUTSIDE);
            always("restore(" + bad + ")", x -> x.restore(bad), OUTSIDE);
        }
        refused(NEW, "restore(0)", x -> x.restore(0), STATE);
        for (int state = NEW; state < FILLED; state++) {
            refused(state, "restore(1)", x -> x.restore(1), STATE);
        }
    }

    // 30: "OUTSIDE"
    private static void told() {
        int[] outside = {Integer.MIN_VALUE, -1, 3, 9, 14, 19, 24, 99, 103, 109, 213, 219, 220, Integer.MAX_VALUE};
        for (int bad : outside) {
            always("told(" + bad + ")", x -> x.told(bad), OUTSIDE);
        }
    }
}
