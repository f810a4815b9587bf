import java.nio.charset.StandardCharsets;
import java.util.ArrayList;
import java.util.Arrays;
import java.util.List;
import java.util.Map;
import java.util.regex.Matcher;
import java.util.regex.Pattern;

/**
 * Long runs of calls, each answer held against an oracle that tries every way where LentTerms takes a short one.
 * The calls come from a fixed row of numbers, so that every run of this test is the same.
 */
public final class AgainstOracle {
    private static final int RUNS = 600, CALLS = 512, CROWDS = 2000, TEXTS = 6000;

    private static long seed;

    private static int below(int bound) {
        seed = seed * 6364136223846793005L + 1442695040888963407L;
        return (int) ((seed >>> 33) % bound);
    }

    /** Now and then a number that no call takes. */
    private static int near(int bound) {
        if (below(40) == 0) {
            int[] odd = {-1, -2, bound, bound + 1, Integer.MAX_VALUE, Integer.MIN_VALUE};
            return odd[below(odd.length)];
        }
        return below(Math.max(1, bound));
    }

    private static int nearFrom(int lowest, int bound) {
        return below(40) == 0 ? lowest - 1 : lowest + near(bound - lowest + 1);
    }

    public static void main(String[] args) {
        boolean asDue = true;
        for (int run = 0; run < RUNS && asDue; run++) {
            seed = run * 7919L + 1;
            asDue = isRunAsDue(run);
        }
        for (int run = 0; run < CROWDS && asDue; run++) {
            seed = run * 104729L + 2;
            asDue = isCrowdAsDue(run);
        }
        for (int run = 0; run < TEXTS && asDue; run++) {
            seed = run * 1299709L + 3;
            asDue = isTextAsDue(run);
        }
        System.out.println(asDue ? RUNS + " runs, " + CROWDS + " crowds, " + TEXTS + " texts as the oracle's"
            : "not as the oracle's");
        if (!asDue) {
            System.exit(1);
        }
    }

    private static boolean isRunAsDue(int run) {
        LentTerms x = new LentTerms();
        Oracle o = new Oracle();
        List<String> told = new ArrayList<>();
        int taste = below(4);
        for (int i = 0; i < CALLS; i++) {
            String[] call = new String[1];
            long[] answers = oneCall(x, o, taste, call);
            told.add(call[0] + " = " + answers[0]);
            if (answers[0] != answers[1]) {
                System.out.println("run " + run + ", due is " + answers[1] + ":");
                for (String line : told) {
                    System.out.println("  " + line);
                }
                return false;
            }
        }
        return true;
    }

    private static boolean isSame(String call, long got, long due) {
        if (got != due) {
            System.out.println(call + " answered " + got + ", due is " + due);
        }
        return got == due;
    }

    /** Everything told at its closest, so that ways stand in one another's way; then all that can be asked. */
    private static boolean isCrowdAsDue(int run) {
        LentTerms x = new LentTerms();
        Oracle o = new Oracle();
        int n = run % 10 == 0 ? 8 : 2 + below(3), kinds = 1 + below(6), copies = 1 + below(3);
        for (int i = 0; i < n; i++) {
            int k = below(kinds), c = 1 + below(copies), f = below(10);
            x.term(k, c, f);
            o.term(k, c, f);
        }
        crowdTalk(x, o, n);
        crowdPlans(x, o, n);
        return isSame("crowd " + run + ": digest()", x.digest(), o.digest()) && isCrowdAnswered("crowd " + run + ": ", x, o, n);
    }

    private static void crowdTalk(LentTerms x, Oracle o, int n) {
        for (int i = 0; i < 8; i++) {
            int t = below(n), u = below(n), v = below(3) == 0 ? u : below(n);
            x.rule(t, u, v);
            o.rule(t, u, v);
            int set = 1 + below((1 << n) - 1), used = 1 + below(9);
            x.saying(set, used);
            o.saying(set, used);
        }
        int hours = 1 + below(6);
        for (int i = 0; i < 10; i++) {
            int p = below(5), t = below(n), a = below(hours), b = a + below(3);
            x.loan(p, t, a, b);
            o.loan(p, t, a, b);
        }
        for (int i = 0; i < 10; i++) {
            int[] l = o.loans.get(below(10));
            int p = below(9) == 0 ? below(5) : l[0], h = l[2] + below(l[3] - l[2] + 1);
            x.said(p, l[1], h);
            o.said(p, l[1], h);
        }
    }

    private static void crowdPlans(LentTerms x, Oracle o, int n) {
        int people = 1 + below(5), hours = 1 + below(4), first = below(19);
        for (int i = 0; i < 5; i++) {
            int p = below(people), set = fewBits(n), a = first + below(hours), b = a + below(hours);
            x.want(p, set, a, b);
            o.want(p, set, a, b);
        }
        int dearest = 1 + below(3) * 40;
        for (int p = 0; p < 5; p++) {
            int has = below(1 << n) & below(1 << n), waits = below(1 << n) & ~has;
            x.waits(p, has, waits);
            o.waits(p, has, waits);
            for (int t = 0; t < n; t++) {
                int v = below(dearest + 1);
                x.worth(p, t, v);
                o.worth(p, t, v);
            }
        }
    }

    private static boolean isCrowdAnswered(String where, LentTerms x, Oracle o, int n) {
        boolean same = isSame(where + "wrong()", x.wrong(), o.wrong())
            && isSame(where + "judge()", x.judge(), o.judge())
            && isSame(where + "buy()", x.buy(), o.buy())
            && isSame(where + "stuck(0)", x.stuck(0), o.stuck(0))
            && isSame(where + "stuck(1)", x.stuck(1), o.stuck(1));
        for (int i = -1; i < 5 && same; i++) {
            same = isSame(where + "plan(" + i + ")", x.plan(i), o.plan(i))
                && isSame(where + "bill(" + i + ")", x.bill(i), o.bill(i))
                && (n > 5 && i > 0 || isSame(where + "deal(" + i + ")", x.deal(i), o.deal(i)));
        }
        for (int h = 0; h < 24 && same; h++) {
            same = isSame(where + "in(" + h + ")", x.in(h), o.in(h));
        }
        for (int i = 0; i < 12 && same; i++) {
            int matter = i < 8 ? 1 << i : below(256), taken = below(1 << n) & below(1 << n), s = below(8);
            same = isSame(where + "dumb(" + matter + ")", x.dumb(matter), o.dumb(matter))
                && isSame(where + "about(" + taken + ")", x.about(taken), o.about(taken))
                && isSame(where + "odds(" + taken + ", " + s + ")", x.odds(taken, s), o.odds(taken, s))
                && isSame(where + "part(0)", x.part(0), o.part(0))
                && isSame(where + "part(1)", x.part(1), o.part(1));
        }
        return same && areRowsSame(where, x, o, n);
    }

    private static boolean areRowsSame(String where, LentTerms x, Oracle o, int n) {
        boolean same = true;
        for (int t = 0; t < n && same; t++) {
            int set = below(1 << n) & below(1 << n);
            int many = o.roundAbout(t, set, -1);
            for (int i = -1; i <= Math.max(many, 0) && same; i++) {
                same = isSame(where + "roundAbout(" + t + ", " + set + ", " + i + ")", x.roundAbout(t, set, i),
                    o.roundAbout(t, set, i));
            }
        }
        return same;
    }

    /** A text that a counter may be told by, or one close to it, on a counter that already holds something. */
    private static boolean isTextAsDue(int run) {
        LentTerms x = new LentTerms();
        Oracle o = new Oracle();
        x.term(0, 2, 7);
        o.term(0, 2, 7);
        x.worth(3, 0, 5);
        o.worth(3, 0, 5);
        o.toType = below(12) == 0 ? noise() : counterText();
        String text = o.toType;
        while (!o.toType.isEmpty()) {
            typeSome(x, o, new String[1]);
        }
        String where = "text <" + text + ">: ";
        return isSame(where + "read()", x.read(), o.read()) && isSame(where + "digest()", x.digest(), o.digest());
    }

    private static int bits(int size) {
        return below(40) == 0 ? near(1 << size) | 1 << size : below(1 << size);
    }

    private static int fewBits(int size) {
        int set = 0;
        for (int i = 0; i <= below(3); i++) {
            set |= 1 << below(Math.max(1, size));
        }
        return below(30) == 0 ? bits(size) : set;
    }

    private static long[] oneCall(LentTerms x, Oracle o, int taste, String[] call) {
        int n = o.terms.size();
        int p = near(5), t = near(n), kind = below(60);
        switch (kind) {
            case 0: case 1: case 2: {
                if (below(5) != 0 && n > 4 && taste > 0) {
                    break;
                }
                int k = near(6), c = nearFrom(1, 3), f = near(10);
                call[0] = "term(" + k + ", " + c + ", " + f + ")";
                return new long[] {x.term(k, c, f), o.term(k, c, f)};
            }
            case 3: {
                int w = near(2);
                call[0] = "may(" + t + ", " + w + ")";
                return new long[] {x.may(t, w), o.may(t, w)};
            }
            case 4: {
                int w = nearFrom(1, 24);
                call[0] = "cost(" + t + ", " + w + ")";
                return new long[] {x.cost(t, w), o.cost(t, w)};
            }
            case 5: case 6: case 7: case 8: {
                int a = near(24), b = below(3) == 0 ? near(24) : a + below(3);
                call[0] = "loan(" + p + ", " + t + ", " + a + ", " + b + ")";
                return new long[] {x.loan(p, t, a, b), o.loan(p, t, a, b)};
            }
            case 9: {
                if (below(4) != 0) {
                    break;
                }
                call[0] = "close()";
                return new long[] {x.close(), o.close()};
            }
            case 10: case 11:
                call[0] = "wrong()";
                return new long[] {x.wrong(), o.wrong()};
            case 12: {
                int h = near(24);
                call[0] = "in(" + h + ")";
                return new long[] {x.in(h), o.in(h)};
            }
            case 13:
                call[0] = "bill(" + p + ")";
                return new long[] {x.bill(p), o.bill(p)};
            case 14: case 15: {
                int h = near(24);
                if (o.loans.size() > 0 && below(3) != 0) {
                    int[] l = o.loans.get(below(o.loans.size()));
                    p = l[0];
                    t = l[1];
                    h = l[2];
                }
                call[0] = "said(" + p + ", " + t + ", " + h + ")";
                return new long[] {x.said(p, t, h), o.said(p, t, h)};
            }
            case 16:
                call[0] = "judge()";
                return new long[] {x.judge(), o.judge()};
            case 17: case 18:
                return typeSome(x, o, call);
            case 19:
                call[0] = "clear()";
                return new long[] {x.clear(), o.clear()};
            case 20: {
                if (o.text.length() == 0 && below(4) != 0) {
                    break;
                }
                call[0] = "read()";
                return new long[] {x.read(), o.read()};
            }
            case 21: case 22: case 23: {
                int u = near(n), v = near(n);
                call[0] = "rule(" + t + ", " + u + ", " + v + ")";
                return new long[] {x.rule(t, u, v), o.rule(t, u, v)};
            }
            case 24: case 25: case 26: case 27: case 28: {
                int set = below(2) == 0 ? bits(n) : fewBits(n), i = below(4) == 0 ? -1 : nearFrom(-1, 12);
                call[0] = "roundAbout(" + t + ", " + set + ", " + i + ")";
                return new long[] {x.roundAbout(t, set, i), o.roundAbout(t, set, i)};
            }
            case 29: case 30: {
                int set = fewBits(n), a = taste == 1 ? 7 + below(2) : near(24), b = a + near(taste == 1 ? 3 : 6);
                call[0] = "want(" + p + ", " + set + ", " + a + ", " + b + ")";
                return new long[] {x.want(p, set, a, b), o.want(p, set, a, b)};
            }
            case 31: case 32: case 33: {
                int w = nearFrom(-1, o.wants.size() - 1);
                call[0] = "plan(" + w + ")";
                return new long[] {x.plan(w), o.plan(w)};
            }
            case 34:
                call[0] = "buy()";
                return new long[] {x.buy(), o.buy()};
            case 35: case 36: case 37: {
                int has = below(2) == 0 ? fewBits(n) : bits(n), w = fewBits(n) & (below(10) == 0 ? -1 : ~has);
                call[0] = "waits(" + p + ", " + has + ", " + w + ")";
                return new long[] {x.waits(p, has, w), o.waits(p, has, w)};
            }
            case 38: case 39: {
                int w = near(2);
                call[0] = "stuck(" + w + ")";
                return new long[] {x.stuck(w), o.stuck(w)};
            }
            case 40: case 41: case 42: case 43: {
                int v = taste == 2 ? below(4) : near(100);
                call[0] = "worth(" + p + ", " + t + ", " + v + ")";
                return new long[] {x.worth(p, t, v), o.worth(p, t, v)};
            }
            case 44: {
                int w = nearFrom(-1, 4);
                call[0] = "deal(" + w + ")";
                return new long[] {x.deal(w), o.deal(w)};
            }
            case 45: case 46: {
                int set = fewBits(n), u = nearFrom(1, 9);
                call[0] = "saying(" + set + ", " + u + ")";
                return new long[] {x.saying(set, u), o.saying(set, u)};
            }
            case 47: {
                int set = below(2) == 0 ? 0 : fewBits(n);
                call[0] = "about(" + set + ")";
                return new long[] {x.about(set), o.about(set)};
            }
            case 48: case 49: {
                int set = below(2) == 0 ? 0 : fewBits(n), s = near(o.sayings.size());
                call[0] = "odds(" + set + ", " + s + ")";
                return new long[] {x.odds(set, s), o.odds(set, s)};
            }
            case 50: {
                int m = bits(o.sayings.size());
                call[0] = "dumb(" + m + ")";
                return new long[] {x.dumb(m), o.dumb(m)};
            }
            case 51: {
                int w = near(2);
                call[0] = "part(" + w + ")";
                return new long[] {x.part(w), o.part(w)};
            }
            case 52: {
                int w = near(2);
                call[0] = "image(" + w + ")";
                return new long[] {x.image(w), o.image(w)};
            }
            case 53: {
                int w = near(2);
                call[0] = "from(" + w + ")";
                return new long[] {x.from(w), o.from(w)};
            }
            case 54: {
                int w = near(3);
                call[0] = "status(" + w + ")";
                return new long[] {x.status(w), o.status(w)};
            }
            case 55: {
                int w = near(7);
                call[0] = "count(" + w + ")";
                return new long[] {x.count(w), o.count(w)};
            }
            default:
                break;
        }
        call[0] = "digest()";
        return new long[] {x.digest(), o.digest()};
    }

    /** A piece of a counter's text, eight bytes at most; the oracle keeps what is still to be typed. */
    private static long[] typeSome(LentTerms x, Oracle o, String[] call) {
        if (o.toType.isEmpty()) {
            o.toType = below(8) == 0 ? noise() : counterText();
        }
        int n = Math.min(8, o.toType.length());
        byte[] bytes = o.toType.substring(0, n).getBytes(StandardCharsets.ISO_8859_1);
        long v = 0;
        for (byte one : bytes) {
            v = v << 8 | one & 255;
        }
        if (n < 8 && below(2) == 0) {
            v |= -1L << 8 * n;
        }
        int told = below(40) == 0 ? near(1) * 9 : n;
        call[0] = "type(" + v + ", " + told + ")";
        if (told == n) {
            o.toType = o.toType.substring(n);
        }
        return new long[] {x.type(v, told), o.type(v, told)};
    }

    private static String noise() {
        String signs = "term rule loan want saying 0123456789;; \u00e9A\t";
        StringBuilder b = new StringBuilder();
        for (int i = 0; i < 3 + below(12); i++) {
            b.append(signs.charAt(below(signs.length())));
        }
        return b.toString();
    }

    private static String counterText() {
        StringBuilder b = new StringBuilder();
        int terms = 1 + below(4);
        for (int i = 0; i < terms; i++) {
            item(b, "term", below(6), 1 + below(3), below(10));
        }
        for (int i = 0; i < below(4); i++) {
            switch (below(4)) {
                case 0:
                    item(b, "rule", below(terms), below(terms), below(terms));
                    break;
                case 1:
                    item(b, "loan", below(5), below(terms), below(12), 11 + below(14));
                    break;
                case 2:
                    item(b, "want", below(5), below(1 << terms), 5, 5 + below(7));
                    break;
                default:
                    item(b, "saying", below(1 << terms), below(11));
                    break;
            }
        }
        if (below(6) == 0) {
            b.setCharAt(below(b.length()), "; 1a\u0000".charAt(below(5)));
        }
        return b.toString();
    }

    private static void item(StringBuilder b, String word, int... numbers) {
        blanks(b, 0);
        b.append(word);
        for (int i = 0; i < numbers.length; i++) {
            blanks(b, i == 0 ? 0 : 1);
            b.append(below(15) == 0 ? String.format("%03d", numbers[i]) : String.valueOf(numbers[i]));
        }
        blanks(b, 0);
        b.append(';');
    }

    private static void blanks(StringBuilder b, int least) {
        int many = below(6) == 0 ? least + below(3) : least;
        for (int i = 0; i < many; i++) {
            b.append(' ');
        }
    }

    /** The document once more, by lists and by trying every way. */
    private static final class Oracle {
        static final Map<String, Integer> NUMBERS = Map.of("term", 3, "rule", 3, "loan", 4, "want", 4, "saying", 2);

        List<int[]> terms = new ArrayList<>(), loans = new ArrayList<>(), saids = new ArrayList<>(),
            rules = new ArrayList<>(), wants = new ArrayList<>(), sayings = new ArrayList<>();
        int[] has = new int[5], waiting = new int[5];
        int[][] worths = new int[5][8];
        final Oracle[] kept = new Oracle[2];
        StringBuilder text = new StringBuilder();
        String toType = "";
        long above = 0, under = 1;
        int[] status = new int[3];

        int told(int answer) {
            if (answer <= -2 && answer >= -4) {
                status[-2 - answer]++;
            }
            return answer;
        }

        int ten() {
            status[0]++;
            return -10;
        }

        static boolean out(int v, int lowest, int highest) {
            return v < lowest || v > highest;
        }

        boolean noTerm(int t) {
            return out(t, 0, terms.size() - 1);
        }

        boolean noSet(int set) {
            return out(set, 0, (1 << terms.size()) - 1);
        }

        static int put(List<int[]> list, int most, int... row) {
            if (list.size() == most) {
                return -4;
            }
            list.add(row);
            return list.size() - 1;
        }

        int plainTerm(int kind, int copies, int fee) {
            return out(kind, 0, 5) || out(copies, 1, 3) || out(fee, 0, 9) ? -2 : put(terms, 8, kind, copies, fee);
        }

        int plainLoan(int p, int t, int a, int b) {
            return out(p, 0, 4) || noTerm(t) || a < 0 || b < a || b > 23 ? -2 : put(loans, 10, p, t, a, b);
        }

        int plainRule(int t, int u, int v) {
            return noTerm(t) || noTerm(u) || noTerm(v) || t == u || t == v ? -2 : put(rules, 8, t, u, v);
        }

        int plainWant(int p, int set, int a, int b) {
            boolean bad = out(p, 0, 4) || noSet(set) || Integer.bitCount(set) < 1 || Integer.bitCount(set) > 3
                || a < 0 || b < a || b > 23 || b > a + 5;
            return bad ? -2 : put(wants, 5, p, set, a, b);
        }

        int plainSaying(int set, int used) {
            return noSet(set) || set == 0 || out(used, 1, 9) ? -2 : put(sayings, 8, set, used);
        }

        int term(int kind, int copies, int fee) {
            return told(plainTerm(kind, copies, fee));
        }

        int mayHave(int t) {
            int kind = terms.get(t)[0];
            return kind == 2 || kind == 4 || kind == 5 ? 1 : terms.get(t)[1];
        }

        int longest(int t) {
            int kind = terms.get(t)[0];
            return kind == 1 || kind == 3 || kind == 5 ? 2 : 24;
        }

        int may(int t, int what) {
            return noTerm(t) || out(what, 0, 1) ? told(-2) : what == 0 ? mayHave(t) : longest(t);
        }

        int price(int t, int n) {
            int kind = terms.get(t)[0], sum = 0, hour = terms.get(t)[2];
            for (int i = 0; i < n; i++) {
                sum += hour;
                hour *= kind == 3 || kind == 5 ? 2 : 1;
            }
            return kind == 4 ? sum + 5 : kind == 5 ? sum / 2 : sum;
        }

        int cost(int t, int n) {
            return noTerm(t) || out(n, 1, 24) ? told(-2) : price(t, n);
        }

        int loan(int p, int t, int a, int b) {
            return told(plainLoan(p, t, a, b));
        }

        int close() {
            int had = loans.size();
            loans.clear();
            saids.clear();
            return had;
        }

        boolean canAllBe(int first) {
            for (int i = 0; i < first; i++) {
                if (loans.get(i)[3] - loans.get(i)[2] + 1 > longest(loans.get(i)[1])) {
                    return false;
                }
            }
            for (int h = 0; h < 24; h++) {
                int[] had = new int[8];
                for (int i = 0; i < first; i++) {
                    int[] l = loans.get(i);
                    if (l[2] <= h && h <= l[3] && ++had[l[1]] > mayHave(l[1])) {
                        return false;
                    }
                }
            }
            return true;
        }

        int wrong() {
            for (int i = 0; i < loans.size(); i++) {
                if (!canAllBe(i + 1)) {
                    return i;
                }
            }
            return -1;
        }

        int in(int hour) {
            if (out(hour, 0, 23)) {
                return told(-2);
            }
            int set = 0;
            for (int t = 0; t < terms.size(); t++) {
                int left = mayHave(t);
                for (int[] l : loans) {
                    left -= l[1] == t && l[2] <= hour && hour <= l[3] ? 1 : 0;
                }
                set |= left > 0 ? 1 << t : 0;
            }
            return set;
        }

        int bill(int p) {
            if (out(p, 0, 4)) {
                return told(-2);
            }
            int sum = 0;
            for (int[] l : loans) {
                sum += l[0] == p ? price(l[1], l[3] - l[2] + 1) : 0;
            }
            return sum;
        }

        int said(int p, int t, int h) {
            return told(out(p, 0, 4) || noTerm(t) || out(h, 0, 23) ? -2 : put(saids, 10, p, t, h));
        }

        int judge() {
            for (int i = 0; i < saids.size(); i++) {
                int[] s = saids.get(i);
                if (loans.stream().noneMatch(l -> l[0] == s[0] && l[1] == s[1] && l[2] <= s[2] && s[2] <= l[3])) {
                    return i;
                }
            }
            return -1;
        }

        int type(long v, int n) {
            if (out(n, 1, 8)) {
                return told(-2);
            }
            if (text.length() + n > 250) {
                return told(-4);
            }
            for (int i = n - 1; i >= 0; i--) {
                text.append((char) (v >>> 8 * i & 255));
            }
            return text.length();
        }

        int clear() {
            int had = text.length();
            text.setLength(0);
            return had;
        }

        void layDown(Oracle o) {
            terms = new ArrayList<>(o.terms);
            loans = new ArrayList<>(o.loans);
            saids = new ArrayList<>(o.saids);
            rules = new ArrayList<>(o.rules);
            wants = new ArrayList<>(o.wants);
            sayings = new ArrayList<>(o.sayings);
            has = o.has.clone();
            waiting = o.waiting.clone();
            for (int p = 0; p < 5; p++) {
                worths[p] = o.worths[p].clone();
            }
        }

        int read() {
            Matcher m = Pattern.compile("\\G *(?:([a-z]+)|([0-9]+)|(;)|([^ ]))", Pattern.DOTALL).matcher(text);
            List<String> item = new ArrayList<>();
            List<List<String>> items = new ArrayList<>();
            while (m.find()) {
                String token = m.group().trim();
                int place = m.end() - token.length();
                if (m.group(4) != null) {
                    return -10 - (m.end() - 1);
                }
                int due = item.isEmpty() ? 0 : NUMBERS.get(item.get(0));
                boolean fits = item.isEmpty() ? NUMBERS.containsKey(token)
                    : item.size() <= due ? token.matches("[0-9]{1,3}") : token.equals(";");
                if (!fits) {
                    return -10 - place;
                }
                item.add(token);
                if (token.equals(";")) {
                    items.add(item);
                    item = new ArrayList<>();
                }
            }
            if (!item.isEmpty()) {
                return -10 - text.length();
            }
            return tellAll(items);
        }

        int tellAll(List<List<String>> items) {
            Oracle anew = new Oracle();
            for (int i = 0; i < items.size(); i++) {
                List<String> it = items.get(i);
                int[] v = it.subList(1, it.size() - 1).stream().mapToInt(Integer::parseInt).toArray();
                int answer = switch (it.get(0)) {
                    case "term" -> anew.plainTerm(v[0], v[1], v[2]);
                    case "rule" -> anew.plainRule(v[0], v[1], v[2]);
                    case "loan" -> anew.plainLoan(v[0], v[1], v[2], v[3]);
                    case "want" -> anew.plainWant(v[0], v[1], v[2], v[3]);
                    default -> anew.plainSaying(v[0], v[1]);
                };
                if (answer < 0) {
                    return -1000 - i;
                }
            }
            layDown(anew);
            return items.size();
        }

        int rule(int t, int u, int v) {
            return told(plainRule(t, u, v));
        }

        /** A way that meets a TERM again below itself is never among the fewest. */
        List<Integer> row(int t, int set, int path) {
            if ((set >> t & 1) == 1) {
                return List.of(t);
            }
            List<Integer> best = null;
            for (int[] r : rules) {
                if (r[0] != t || ((1 << r[1] | 1 << r[2]) & path) != 0) {
                    continue;
                }
                List<Integer> u = row(r[1], set, path | 1 << r[1]), v = row(r[2], set, path | 1 << r[2]);
                if (u != null && v != null && (best == null || u.size() + v.size() < best.size())) {
                    best = new ArrayList<>(u);
                    best.addAll(v);
                }
            }
            return best;
        }

        int roundAbout(int t, int set, int i) {
            if (noTerm(t) || noSet(set) || i < -1) {
                return ten();
            }
            List<Integer> row = row(t, set, 1 << t);
            return row == null ? -1 : i == -1 ? row.size() : i < row.size() ? row.get(i) : -5;
        }

        int want(int p, int set, int a, int b) {
            return told(plainWant(p, set, a, b));
        }

        int[] bestHours;
        int bestMet;

        void tryAll(int[] hours, int w, int extra) {
            if (w == wants.size()) {
                int met = 0;
                for (int h : hours) {
                    met += h < 24 ? 1 : 0;
                }
                if (met > bestMet && canMeet(hours, extra)) {
                    bestMet = met;
                    bestHours = hours.clone();
                }
                return;
            }
            for (int h = wants.get(w)[2]; h <= wants.get(w)[3]; h++) {
                hours[w] = h;
                tryAll(hours, w + 1, extra);
            }
            hours[w] = 24;
            tryAll(hours, w + 1, extra);
        }

        boolean canMeet(int[] hours, int extra) {
            int[][] had = new int[24][8], busy = new int[24][5];
            for (int w = 0; w < hours.length; w++) {
                if (hours[w] == 24) {
                    continue;
                }
                if (++busy[hours[w]][wants.get(w)[0]] > 1) {
                    return false;
                }
                for (int t = 0; t < terms.size(); t++) {
                    if ((wants.get(w)[1] >> t & 1) == 1 && ++had[hours[w]][t] > mayHave(t) + (t == extra ? 1 : 0)) {
                        return false;
                    }
                }
            }
            return true;
        }

        int met(int extra) {
            bestMet = -1;
            tryAll(new int[wants.size()], 0, extra);
            return bestMet;
        }

        int plan(int want) {
            if (out(want, -1, wants.size() - 1)) {
                return ten();
            }
            int met = met(-1);
            return want == -1 ? met : bestHours[want];
        }

        int buy() {
            int most = met(-1), best = -1;
            for (int t = 0; t < terms.size(); t++) {
                int kind = terms.get(t)[0];
                if ((kind == 0 || kind == 1 || kind == 3) && terms.get(t)[1] < 3 && met(t) > most) {
                    most = bestMet;
                    best = t;
                }
            }
            return best;
        }

        int waits(int p, int his, int others) {
            if (out(p, 0, 4) || noSet(his) || noSet(others) || (his & others) != 0) {
                return told(-2);
            }
            has[p] = his;
            waiting[p] = others;
            return 1;
        }

        int stuckBut(int givers) {
            int[] having = has.clone(), still = waiting.clone();
            boolean[] done = new boolean[5];
            for (int p = 0; p < 5; p++) {
                if ((givers >> p & 1) == 1) {
                    having[p] = 0;
                    still[p] = 0;
                }
            }
            for (int round = 0; round < 6; round++) {
                int[] had = new int[8];
                for (int p = 0; p < 5; p++) {
                    for (int t = 0; t < 8; t++) {
                        had[t] += having[p] >> t & 1;
                    }
                }
                for (int p = 0; p < 5; p++) {
                    boolean all = true;
                    for (int t = 0; t < terms.size(); t++) {
                        all &= (still[p] >> t & 1) == 0 || had[t] < mayHave(t);
                    }
                    if (all) {
                        having[p] = 0;
                        still[p] = 0;
                        done[p] = true;
                    }
                }
            }
            int stuck = 0;
            for (int p = 0; p < 5; p++) {
                stuck |= done[p] ? 0 : 1 << p;
            }
            return stuck;
        }

        int stuck(int what) {
            if (out(what, 0, 1)) {
                return told(-2);
            }
            int stuck = stuckBut(0), best = stuck;
            if (what == 0) {
                return stuck;
            }
            for (int set = 31; set >= 0; set--) {
                if ((set & ~stuck) == 0 && Integer.bitCount(set) <= Integer.bitCount(best) && stuckBut(set) == 0) {
                    best = set;
                }
            }
            return best;
        }

        int worth(int p, int t, int v) {
            if (out(p, 0, 4) || noTerm(t) || out(v, 0, 99)) {
                return told(-2);
            }
            int was = worths[p][t];
            worths[p][t] = v;
            return was;
        }

        int[] bestDeal;
        int bestSum;

        void dealAll(int[] got, int[] left, int p, int sum) {
            if (p == 5) {
                if (sum > bestSum) {
                    bestSum = sum;
                    bestDeal = got.clone();
                }
                return;
            }
            got[p] = 8;
            dealAll(got, left, p + 1, sum);
            for (int t = 0; t < terms.size(); t++) {
                if (left[t] > 0) {
                    left[t]--;
                    got[p] = t;
                    dealAll(got, left, p + 1, sum + worths[p][t]);
                    left[t]++;
                }
            }
        }

        int deal(int p) {
            if (out(p, -1, 4)) {
                return ten();
            }
            int[] left = new int[8];
            for (int t = 0; t < terms.size(); t++) {
                left[t] = mayHave(t);
            }
            bestSum = -1;
            dealAll(new int[5], left, 0, 0);
            return p == -1 ? bestSum : bestDeal[p];
        }

        int saying(int set, int used) {
            return told(plainSaying(set, used));
        }

        int able(int taken) {
            int bits = 0;
            for (int s = 0; s < sayings.size(); s++) {
                bits |= (sayings.get(s)[0] & taken) == taken ? 1 << s : 0;
            }
            return bits;
        }

        int about(int taken) {
            return noSet(taken) ? told(-2) : able(taken);
        }

        int odds(int taken, int s) {
            if (noSet(taken) || out(s, 0, sayings.size() - 1)) {
                return told(-2);
            }
            int able = able(taken);
            if ((able >> s & 1) == 0) {
                return told(-3);
            }
            int one = sayings.get(s)[1], all = 0;
            for (int i = 0; i < sayings.size(); i++) {
                all += (able >> i & 1) * sayings.get(i)[1];
            }
            int a = one, b = all;
            while (b > 0) {
                int r = a % b;
                a = b;
                b = r;
            }
            above = one / a;
            under = all / a;
            return 1;
        }

        int dumb(int matter) {
            if (out(matter, 0, (1 << sayings.size()) - 1)) {
                return told(-2);
            }
            int all = (1 << terms.size()) - 1, best = all;
            for (int keep = all; keep >= 0; keep--) {
                if (Integer.bitCount(keep) <= Integer.bitCount(best) && isDumb(matter, all - keep)) {
                    best = keep;
                }
            }
            return best;
        }

        boolean isDumb(int matter, int others) {
            int can = 0;
            for (int t = 0; t < terms.size(); t++) {
                can |= row(t, others, 1 << t) != null ? 1 << t : 0;
            }
            for (int s = 0; s < sayings.size(); s++) {
                if ((matter >> s & 1) == 1 && (sayings.get(s)[0] & can) == sayings.get(s)[0]) {
                    return false;
                }
            }
            return true;
        }

        long part(int what) {
            return out(what, 0, 1) ? told(-2) : what == 0 ? above : under;
        }

        int image(int i) {
            if (out(i, 0, 1)) {
                return told(-2);
            }
            kept[i] = new Oracle();
            kept[i].layDown(this);
            return 1;
        }

        int from(int i) {
            if (out(i, 0, 1)) {
                return told(-2);
            }
            if (kept[i] == null) {
                return told(-3);
            }
            layDown(kept[i]);
            return 1;
        }

        int status(int what) {
            if (out(what, 0, 2)) {
                status[0]++;
                return -1;
            }
            return status[what];
        }

        int[] counts() {
            return new int[] {terms.size(), loans.size(), saids.size(), rules.size(), wants.size(), sayings.size(),
                text.length()};
        }

        int count(int what) {
            return out(what, 0, 6) ? told(-2) : counts()[what];
        }

        long digest() {
            List<Long> all = new ArrayList<>();
            for (int c : counts()) {
                all.add((long) c);
            }
            for (List<int[]> list : Arrays.asList(terms, loans, saids, rules, wants)) {
                addRows(all, list);
            }
            for (int p = 0; p < 5; p++) {
                all.add((long) has[p]);
                all.add((long) waiting[p]);
                for (int t = 0; t < terms.size(); t++) {
                    all.add((long) worths[p][t]);
                }
            }
            addRows(all, sayings);
            all.add(above);
            all.add(under);
            long h = 719;
            for (long v : all) {
                h = 31 * h + v;
            }
            return h;
        }

        static void addRows(List<Long> all, List<int[]> list) {
            for (int[] row : list) {
                for (int v : row) {
                    all.add((long) v);
                }
            }
        }
    }
}
