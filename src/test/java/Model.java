import java.math.BigDecimal;
import java.math.BigInteger;
import java.util.ArrayList;
import java.util.Arrays;
import java.util.List;

/** The document told a second time, as slowly and as differently as can be, to compare answers with. */
final class Model {
    private static final String ACTS = "(\\.|[A-D](\\+[a-l]|-[a-l]|[a-l]|>[A-D][a-l]))*";
    private static final String SENTENCE = "s*td(s*t)?";
    private static final String[] ENDS = {"", "a", "+a", "Aa", "Aaa"};

    /** What an image keeps. */
    private static final class State {
        int[] weight = new int[12];
        int[] kind = new int[12];
        int[] group = new int[12];
        int[] purse = new int[4];
        boolean[][] has = new boolean[4][12];
        List<Integer> wishes = new ArrayList<>();
        List<int[]> sights = new ArrayList<>();

        State copy() {
            State c = new State();
            c.weight = weight.clone();
            c.kind = kind.clone();
            c.group = group.clone();
            c.purse = purse.clone();
            for (int s = 0; s < 4; s++) {
                c.has[s] = has[s].clone();
            }
            c.wishes = new ArrayList<>(wishes);
            c.sights = new ArrayList<>(sights);
            return c;
        }

        int bits(int speaker) {
            int bits = 0;
            for (int w = 0; w < 12; w++) {
                bits |= has[speaker][w] ? 1 << w : 0;
            }
            return bits;
        }

        /** The reason for which the act can not be, or 0, and then it is. */
        int act(char mark, int s, int w, int to) {
            boolean already = mark == '+' && has[s][w] || mark == '>' && has[to][w];
            boolean lacks = mark != '+' && !has[s][w];
            int half = (weight[w] - weight[w] % 2) / 2;
            if (already) {
                return 1;
            } else if (lacks) {
                return 2;
            } else if (mark == '+' && purse[s] - weight[w] < 0) {
                return 3;
            } else if (mark == '-' && purse[s] + half >= 1000) {
                return 4;
            }
            if (mark == '+') {
                purse[s] -= weight[w];
                has[s][w] = true;
            } else if (mark == '-') {
                purse[s] += half;
                has[s][w] = false;
            } else if (mark == '>') {
                has[s][w] = false;
                has[to][w] = true;
            } else if (weight[w] > 0) {
                weight[w]--;
            }
            return 0;
        }
    }

    private State now = new State();
    private final State[] images = new State[2];
    private String pad = "";

    // What the pad comes to.
    private int fault;
    private State then;
    private int acts;
    private int badAct;
    private int why;
    private int sentences;
    private int spoken;
    private String row;
    private int heaviest;

    Model() {
        Arrays.fill(now.weight, 10);
        Arrays.fill(now.purse, 50);
        for (int w = 0; w < 12; w++) {
            now.group[w] = w;
        }
    }

    private static boolean in(int number, int least, int most) {
        return number >= least && number <= most;
    }

    int word(int w, int weight, int kind) {
        if (!in(w, 0, 11)) {
            return -1;
        } else if (!in(weight, 0, 99) || !in(kind, 0, 2)) {
            return -2;
        }
        int was = now.weight[w];
        now.weight[w] = weight;
        now.kind[w] = kind;
        return was;
    }

    private int rhyming(int word) {
        int bits = 0;
        for (int w = 0; w < 12; w++) {
            bits |= w != word && now.group[w] == now.group[word] ? 1 << w : 0;
        }
        return bits;
    }

    int rhyme(int one, int other) {
        if (!in(one, 0, 11) || !in(other, 0, 11) || one == other) {
            return -1;
        }
        int old = now.group[other];
        for (int w = 0; w < 12; w++) {
            now.group[w] = now.group[w] == old ? now.group[one] : now.group[w];
        }
        return Integer.bitCount(rhyming(one));
    }

    int part(int word) {
        if (!in(word, 0, 11)) {
            return -1;
        }
        int were = Integer.bitCount(rhyming(word));
        int free = 0;
        for (int w = 0; w < 12; w++) {
            free = Math.max(free, now.group[w] + 1);
        }
        now.group[word] = free;
        return were;
    }

    int speaker(int s, int purse, int has) {
        if (!in(s, 0, 3)) {
            return -1;
        } else if (!in(purse, 0, 999) || !in(has, 0, 4095)) {
            return -2;
        }
        int was = now.purse[s];
        now.purse[s] = purse;
        for (int w = 0; w < 12; w++) {
            now.has[s][w] = (has & 1 << w) != 0;
        }
        return was;
    }

    int say(int sign) {
        if (!in(sign, 33, 126)) {
            return -2;
        } else if (pad.length() >= 60) {
            return -4;
        }
        pad += (char) sign;
        return pad.length();
    }

    int wipe() {
        int were = pad.length();
        pad = "";
        return were;
    }

    private static boolean canGoOn(String text) {
        for (String end : ENDS) {
            if ((text + end).matches(ACTS)) {
                return true;
            }
        }
        return false;
    }

    private void read() {
        fault = pad.matches(ACTS) ? -6 : pad.length();
        for (int length = pad.length(); length > 0; length--) {
            if (!canGoOn(pad.substring(0, length))) {
                fault = length - 1;
            }
        }
        if (fault != -6) {
            return;
        }
        then = now.copy();
        acts = 0;
        badAct = -6;
        why = -6;
        sentences = 0;
        spoken = 0;
        row = "";
        heaviest = -6;
        int most = -1;
        for (int at = 0; at < pad.length();) {
            int reason = 0;
            if (pad.charAt(at) == '.') {
                reason = row.matches(SENTENCE) ? 0 : 5;
                sentences++;
                row = "";
                at++;
            } else {
                char mark = pad.charAt(at + 1);
                int length = mark == '>' ? 4 : mark == '+' || mark == '-' ? 3 : 2;
                int w = pad.charAt(at + length - 1) - 'a';
                int ahead = then.weight[w];
                reason = then.act(mark, pad.charAt(at) - 'A', w, mark == '>' ? pad.charAt(at + 2) - 'A' : 0);
                if (length == 2) {
                    spoken++;
                    row += "tds".charAt(then.kind[w]);
                    heaviest = ahead > most ? w : heaviest;
                    most = Math.max(ahead, most);
                }
                at += length;
            }
            if (reason != 0 && why == -6) {
                badAct = acts;
                why = reason;
            }
            acts++;
        }
    }

    int fault() {
        read();
        return fault;
    }

    private int refusal() {
        read();
        return fault != -6 ? -5 : why != -6 ? -3 : 0;
    }

    int judge(int what) {
        if (!in(what, 0, 2)) {
            return -2;
        }
        int refusal = refusal();
        if (refusal == -5 || what == 2 && refusal == -3) {
            return refusal;
        }
        return new int[] {badAct, why, sentences}[what];
    }

    int behind(int s, int what) {
        if (!in(s, 0, 3)) {
            return -1;
        } else if (!in(what, 0, 1)) {
            return -2;
        }
        int refusal = refusal();
        return refusal != 0 ? refusal : what == 0 ? then.purse[s] : then.bits(s);
    }

    int worn(int w) {
        if (!in(w, 0, 11)) {
            return -1;
        }
        int refusal = refusal();
        return refusal != 0 ? refusal : then.weight[w];
    }

    int said(int what) {
        if (!in(what, 0, 2)) {
            return -2;
        }
        int refusal = refusal();
        return refusal != 0 ? refusal : new int[] {spoken, row.length(), heaviest}[what];
    }

    int done() {
        int refusal = refusal();
        if (refusal != 0) {
            return refusal;
        }
        now = then;
        pad = "";
        return acts;
    }

    int scales(int set) {
        if (!in(set, 0, 4095)) {
            return -2;
        }
        int[] heaviestOf = new int[100000];
        for (int w = 0; w < 12; w++) {
            if ((set & 1 << w) != 0) {
                heaviestOf[now.group[w]] = Math.max(heaviestOf[now.group[w]], now.weight[w]);
            }
        }
        return Arrays.stream(heaviestOf).sum();
    }

    /** How many of each kind there are in each row of n kinds that is a sentence. */
    private static List<int[]> forms(int n) {
        List<int[]> forms = new ArrayList<>();
        for (int number = 0; number < Math.pow(3, n); number++) {
            StringBuilder kinds = new StringBuilder();
            int[] counts = new int[3];
            for (int left = number, place = 0; place < n; place++, left /= 3) {
                kinds.append("tds".charAt(left % 3));
                counts[left % 3]++;
            }
            if (kinds.toString().matches(SENTENCE)) {
                forms.add(counts);
            }
        }
        return forms;
    }

    private static final List<List<int[]>> FORMS = new ArrayList<>();

    private static List<int[]> formsOf(int n) {
        while (FORMS.size() <= n) {
            FORMS.add(forms(FORMS.size()));
        }
        return FORMS.get(n);
    }

    private int[] kindsOf(int set) {
        int[] counts = new int[3];
        for (int w = 0; w < 12; w++) {
            counts[now.kind[w]] += set >> w & 1;
        }
        return counts;
    }

    long says(int s, int n) {
        if (!in(s, 0, 3)) {
            return -1;
        } else if (!in(n, 1, 8)) {
            return -2;
        }
        int[] has = kindsOf(now.bits(s));
        long sum = 0;
        for (int[] form : formsOf(n)) {
            double ways = Math.pow(has[0], form[0]) * Math.pow(has[1], form[1]) * Math.pow(has[2], form[2]);
            sum += Math.round(ways);
        }
        return sum;
    }

    int cheap(int s, int n, int what) {
        if (!in(s, 0, 3)) {
            return -1;
        } else if (!in(n, 1, 8) || !in(what, 0, 1)) {
            return -2;
        }
        int best = -6;
        int least = Integer.MAX_VALUE;
        for (int set = 4095; set >= 0; set--) {
            boolean is = false;
            int[] kinds = kindsOf(set);
            for (int[] form : formsOf(n)) {
                is |= Arrays.equals(form, kinds);
            }
            int price = 0;
            for (int w = 0; w < 12; w++) {
                price += (set & 1 << w) != 0 && !now.has[s][w] ? now.weight[w] : 0;
            }
            if (is && price <= least) {
                best = set;
                least = price;
            }
        }
        return best == -6 ? -6 : what == 0 ? least : best;
    }

    int pool(int n, int what) {
        if (!in(n, 1, 8) || !in(what, 0, 1)) {
            return -2;
        }
        int best = -6;
        for (int who = 15; who >= 0; who--) {
            int all = 0;
            for (int s = 0; s < 4; s++) {
                all |= (who & 1 << s) != 0 ? now.bits(s) : 0;
            }
            int[] kinds = kindsOf(all);
            boolean can = false;
            for (int[] form : formsOf(n)) {
                can |= form[0] <= kinds[0] && form[1] <= kinds[1] && form[2] <= kinds[2];
            }
            if (can && (best == -6 || Integer.bitCount(who) <= Integer.bitCount(best))) {
                best = who;
            }
        }
        return best == -6 ? -6 : what == 0 ? Integer.bitCount(best) : best;
    }

    int wish(int set) {
        if (!in(set, 0, 4095)) {
            return -2;
        } else if (now.wishes.size() == 8) {
            return -4;
        }
        now.wishes.add(set);
        return now.wishes.size();
    }

    int unwish() {
        int were = now.wishes.size();
        now.wishes.clear();
        return were;
    }

    int nine(int what) {
        if (!in(what, 0, 1)) {
            return -2;
        }
        for (int number = 0; number <= 12; number++) {
            for (int set = 0; set < 4096; set++) {
                int given = set;
                if (Integer.bitCount(set) == number && now.wishes.stream().allMatch(wish -> (wish & given) != 0)) {
                    return what == 0 ? number : set;
                }
            }
        }
        return -6;
    }

    int seen(int left, int right, int how) {
        if (!in(left, 0, 4095) || !in(right, 0, 4095) || !in(how, 0, 2)) {
            return -2;
        } else if (Integer.bitCount(left) != Integer.bitCount(right) || (left & right) > 0) {
            return -2;
        } else if (now.sights.size() == 6) {
            return -4;
        }
        now.sights.add(new int[] {left, right, how});
        return now.sights.size();
    }

    int forget() {
        int were = now.sights.size();
        now.sights.clear();
        return were;
    }

    int hollow() {
        int can = 0;
        for (int w = 0; w < 12; w++) {
            boolean fits = true;
            for (int[] sight : now.sights) {
                int would = (sight[0] & 1 << w) != 0 ? 0 : (sight[1] & 1 << w) != 0 ? 1 : 2;
                fits &= would == sight[2];
            }
            can |= fits ? 1 << w : 0;
        }
        return can;
    }

    private static int turns(int suspects) {
        int best = suspects <= 1 ? 0 : 100;
        for (int k = 1; 2 * k <= suspects; k++) {
            best = Math.min(best, 1 + Math.max(turns(k), turns(suspects - 2 * k)));
        }
        return best;
    }

    int lay(int what) {
        if (!in(what, 0, 2)) {
            return -2;
        }
        int suspects = Integer.bitCount(hollow());
        if (what == 2) {
            return turns(suspects);
        } else if (suspects == 0) {
            return -6;
        }
        for (int left = 0; true; left++) {
            for (int k = 0; 2 * k <= suspects; k++) {
                if (k <= left && suspects - k - k <= left) {
                    return what == 0 ? k : left;
                }
            }
        }
    }

    private static BigDecimal waiting(int v, int m, int t) {
        BigDecimal rises = mean(v + 1, m - 1, t).multiply(BigDecimal.valueOf(t));
        BigDecimal falls = mean(Math.max(0, v - 1), m - 1, t).multiply(BigDecimal.valueOf(10 - t));
        return rises.add(falls).movePointLeft(1);
    }

    private static BigDecimal mean(int v, int m, int t) {
        BigDecimal atOnce = BigDecimal.valueOf(v);
        return m == 0 ? atOnce : atOnce.max(waiting(v, m, t));
    }

    long weather(int v, int m, int t, int what, int part) {
        if (!in(v, 0, 40) || !in(m, 0, 8) || !in(t, 0, 10) || !in(what, 0, 1) || !in(part, 0, 1)) {
            return -1000000000000000000L - 2;
        }
        if (what == 1) {
            return m == 0 || BigDecimal.valueOf(v).compareTo(waiting(v, m, t)) >= 0 ? 1 : 0;
        }
        BigInteger upper = mean(v, m, t).movePointRight(20).toBigIntegerExact();
        BigInteger lower = BigInteger.TEN.pow(20);
        BigInteger common = upper.gcd(lower);
        return (part == 0 ? upper : lower).divide(common).longValueExact();
    }

    int synonyms(int v, int c, int p, int n) {
        if (!in(v, 0, 40) || !in(c, 0, 20) || c >= p || p > 40 || !in(n, -1, 99)) {
            return -2;
        }
        List<Integer> prices = new ArrayList<>();
        for (int turn = 0, price = v; turn < 500; turn++) {
            prices.add(price);
            price = price - 1 > c ? price - 1 : p;
        }
        if (n >= 0) {
            return prices.get(n);
        }
        int ring = 1;
        while (!prices.get(400).equals(prices.get(400 + ring))) {
            ring++;
        }
        return ring;
    }

    int year(int seed, int m, int what) {
        if (!in(seed, 0, 9999) || !in(m, 1, 99) || !in(what, 0, 2)) {
            return -2;
        }
        State year = now.copy();
        BigInteger x = BigInteger.valueOf(seed);
        for (int act = 0; act < m; act++) {
            x = x.multiply(BigInteger.valueOf(75)).add(BigInteger.valueOf(74)).mod(BigInteger.valueOf(65537));
            int draw = x.intValueExact();
            char mark = "++ss->".charAt(draw / 48 % 6);
            year.act(mark, draw % 4, draw / 4 % 12, draw / 288 % 4);
        }
        int words = 0;
        for (int s = 0; s < 4; s++) {
            words += Integer.bitCount(year.bits(s));
        }
        return what == 0 ? Arrays.stream(year.purse).sum() : what == 1 ? Arrays.stream(year.weight).sum() : words;
    }

    int image(int k) {
        if (!in(k, 0, 1)) {
            return -2;
        }
        images[k] = now.copy();
        return 1;
    }

    int restore(int k) {
        if (!in(k, 0, 1)) {
            return -2;
        } else if (images[k] == null) {
            return -3;
        }
        now = images[k].copy();
        return 1;
    }

    int told(int what) {
        if (in(what, 0, 2)) {
            return new int[] {pad.length(), now.wishes.size(), now.sights.size()}[what];
        } else if (in(what, 10, 13)) {
            return now.purse[what - 10];
        } else if (in(what, 20, 23)) {
            return now.bits(what - 20);
        }
        for (int w = 0; w < 12; w++) {
            int from = 100 + 10 * w;
            if (in(what, from, from + 2)) {
                return new int[] {now.weight[w], now.kind[w], rhyming(w)}[what - from];
            }
        }
        return -2;
    }
}
