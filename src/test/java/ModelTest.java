/** All promises: long runs of drawn calls, each answer compared with the Model's. */
public final class ModelTest {
    // No step makes more calls than MOST_OF_A_STEP: a sentence's or all that is told.
    private static final int RUNS = 400, MOST_OF_A_STEP = Check.TOLD + 1, KINDS = 29;
    private static final String[] PIECES = {".", ".", "A", "B", "C", "D", "+", "-", ">", "a", "l", "m", "E"};

    private long drawn;
    private int calls = 0;
    private final WordScales x = new WordScales();
    private final Model y = new Model();
    private final int run;

    private ModelTest(int run) {
        this.run = run;
        drawn = 7919L * run + 1;
    }

    public static void main(String[] args) {
        for (int run = 0; run < RUNS; run++) {
            ModelTest test = new ModelTest(run);
            while (test.calls <= Check.MOST_CALLS - MOST_OF_A_STEP) {
                test.step();
            }
        }
        Check.end();
    }

    private int draw(int below) {
        drawn = drawn * 6364136223846793005L + 1442695040888963407L;
        return (int) ((drawn >>> 33) % below);
    }

    /** A number from least to most, seldom one that lies outside. */
    private int number(int least, int most) {
        int chance = draw(60);
        if (chance == 0) {
            return least - 1;
        } else if (chance == 1) {
            return most + 1;
        } else if (chance == 2) {
            return draw(2) == 0 ? Integer.MIN_VALUE : Integer.MAX_VALUE;
        } else if (chance < 6) {
            return chance % 2 == 0 ? least : most;
        }
        return least + draw(most - least + 1);
    }

    private void compare(String call, long got, long want) {
        calls++;
        Check.due("run " + run + ": " + call, got, want);
    }

    private void step() {
        int kind = draw(KINDS + 6);
        if (kind >= KINDS) {
            sayAct();
            return;
        }
        if (kind < 15) {
            callEarly(kind);
        } else {
            callLate(kind);
        }
    }

    private void sayAct() {
        if (draw(4) == 0) {
            compare("wipe", x.wipe(), y.wipe());
        }
        String text;
        int form = draw(12);
        String who = "" + (char) ('A' + draw(4));
        String word = "" + (char) ('a' + draw(12));
        if (form < 6) {
            text = who + word;
        } else if (form < 8) {
            text = who + "+" + word;
        } else if (form < 9) {
            text = who + "-" + word;
        } else if (form < 10) {
            text = who + ">" + (char) ('A' + draw(4)) + word;
        } else {
            text = draw(3) == 0 ? PIECES[draw(PIECES.length)] : saySentence();
        }
        for (int place = 0; place < text.length(); place++) {
            compare("say " + text.charAt(place), x.say(text.charAt(place)), y.say(text.charAt(place)));
        }
    }

    /** A sentence by one who has all its words, if there is such a one. */
    private String saySentence() {
        StringBuilder text = new StringBuilder();
        String kinds = new String[] {"01", "010", "201", "20120", "2201"}[draw(5)];
        for (int place = 0; place < kinds.length(); place++) {
            int from = draw(48);
            for (int at = 0; at < 48; at++) {
                int speaker = (from + at) % 4;
                int word = (from + at) / 4 % 12;
                boolean fits = y.told(101 + 10 * word) == kinds.charAt(place) - '0';
                if (fits && (y.told(20 + speaker) >> word & 1) == 1) {
                    text.append((char) ('A' + speaker)).append((char) ('a' + word));
                    break;
                }
            }
        }
        return text.append('.').toString();
    }

    private void callEarly(int kind) {
        int a;
        int b;
        int c;
        switch (kind) {
            case 0:
                a = number(0, 11);
                b = draw(3) == 0 ? number(0, 3) : number(0, 99);
                c = number(0, 2);
                compare("word", x.word(a, b, c), y.word(a, b, c));
                break;
            case 1:
                a = number(0, 11);
                b = number(0, 11);
                compare("rhyme", x.rhyme(a, b), y.rhyme(a, b));
                break;
            case 2:
                a = number(0, 11);
                compare("part", x.part(a), y.part(a));
                break;
            case 3:
                a = number(0, 3);
                b = draw(3) == 0 ? number(980, 999) : number(0, 999);
                c = number(0, 4095);
                compare("speaker", x.speaker(a, b, c), y.speaker(a, b, c));
                break;
            case 4:
                a = draw(3) == 0 ? number(33, 126) : '.';
                compare("say " + a, x.say(a), y.say(a));
                break;
            case 5:
                compare("fault", x.fault(), y.fault());
                break;
            case 6:
                a = number(0, 2);
                compare("judge " + a, x.judge(a), y.judge(a));
                break;
            case 7:
                a = number(0, 3);
                b = number(0, 1);
                compare("behind", x.behind(a, b), y.behind(a, b));
                break;
            case 8:
                a = number(0, 11);
                compare("worn", x.worn(a), y.worn(a));
                break;
            case 9:
                a = number(0, 2);
                compare("said " + a, x.said(a), y.said(a));
                break;
            case 10:
                compare("done", x.done(), y.done());
                break;
            case 11:
                a = number(0, 4095);
                compare("scales", x.scales(a), y.scales(a));
                break;
            case 12:
                a = number(0, 3);
                b = number(1, 8);
                compare("says", x.says(a, b), y.says(a, b));
                break;
            case 13:
                a = number(0, 3);
                b = number(1, 8);
                c = number(0, 1);
                compare("cheap", x.cheap(a, b, c), y.cheap(a, b, c));
                break;
            default:
                a = number(1, 8);
                b = number(0, 1);
                compare("pool", x.pool(a, b), y.pool(a, b));
                break;
        }
    }

    private int someWords(int most) {
        int set = 0;
        for (int word = draw(most + 1); word > 0; word--) {
            set |= 1 << draw(12);
        }
        return set;
    }

    private void callLate(int kind) {
        int a;
        int b;
        int c;
        int d;
        int e;
        switch (kind) {
            case 15:
                a = draw(20) == 0 ? number(0, 4095) : someWords(4) | 1 << draw(12);
                compare("wish", x.wish(a), y.wish(a));
                break;
            case 16:
                if (draw(4) == 0) {
                    compare("unwish", x.unwish(), y.unwish());
                }
                break;
            case 17:
                a = number(0, 1);
                compare("nine", x.nine(a), y.nine(a));
                break;
            case 18:
                a = draw(20) == 0 ? number(0, 4095) : someWords(6);
                b = draw(20) == 0 ? number(0, 4095) : someWords(6);
                for (int tries = 0; tries < 300 && Integer.bitCount(b & ~a) != Integer.bitCount(a); tries++) {
                    b = draw(4096) & ~a;
                }
                c = draw(2) == 0 ? 2 : number(0, 2);
                compare("seen", x.seen(a, b, c), y.seen(a, b, c));
                break;
            case 19:
                if (draw(3) == 0) {
                    compare("forget", x.forget(), y.forget());
                }
                break;
            case 20:
                compare("hollow", x.hollow(), y.hollow());
                break;
            case 21:
                a = number(0, 2);
                compare("lay " + a, x.lay(a), y.lay(a));
                break;
            case 22:
                a = draw(2) == 0 ? number(0, 8) : number(0, 40);
                b = number(0, 8);
                c = number(0, 10);
                d = number(0, 1);
                e = number(0, 1);
                compare("weather", x.weather(a, b, c, d, e), y.weather(a, b, c, d, e));
                break;
            case 23:
                a = number(0, 40);
                b = number(0, 20);
                c = number(0, 40);
                d = number(-1, 99);
                compare("synonyms", x.synonyms(a, b, c, d), y.synonyms(a, b, c, d));
                break;
            case 24:
            case 25:
                a = number(0, 9999);
                b = number(1, 99);
                c = number(0, 2);
                compare("year", x.year(a, b, c), y.year(a, b, c));
                break;
            case 26:
                a = number(0, 1);
                compare("image", x.image(a), y.image(a));
                break;
            case 27:
                a = number(0, 1);
                compare("restore", x.restore(a), y.restore(a));
                break;
            default:
                a = number(0, 220);
                compare("told " + a, x.told(a), y.told(a));
                if (draw(5) == 0) {
                    tellAll();
                }
                break;
        }
    }

    private void tellAll() {
        for (int what = 0; what <= 212; what++) {
            if (Check.isTold(what)) {
                compare("told " + what, x.told(what), y.told(what));
            }
        }
    }
}
