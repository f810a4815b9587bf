/** For each promise of ../shared/DOC.md ordinary calls, the edges that it names, and wrong ones; answers worked out by hand. */
public final class PromiseTests {
    private static final int MAX = Integer.MAX_VALUE, MIN = Integer.MIN_VALUE;
    private static int checks = 0;
    private static int wrong = 0;

    private static void due(int promise, String call, long got, long want) {
        checks++;
        if (got != want) {
            wrong++;
            System.out.println("promise " + promise + ": " + call + " answered " + got + ", due is " + want);
        }
    }

    public static void main(String[] args) {
        newObject();
        terms();
        mayAndLong();
        costs();
        loans();
        closing();
        wrongLoans();
        lendable();
        bills();
        sayingAndJudging();
        typing();
        reading();
        readingAgain();
        readingFaults();
        readingRefusals();
        rules();
        roundAbout();
        wants();
        plans();
        buying();
        waiting();
        breaking();
        worths();
        dealing();
        sayings();
        aboutAndOdds();
        dumb();
        parts();
        images();
        statuses();
        counts();
        digests();
        System.out.println(checks + " checks, " + wrong + " wrong");
        if (wrong != 0) {
            System.exit(1);
        }
    }

    /** TERMS of one KIND each: 0 COMMON .. 5 GRAND, all of 3 COPIES and FEE 3. */
    private static LentTerms ofEachKind() {
        LentTerms x = new LentTerms();
        for (int kind = 0; kind < 6; kind++) {
            x.term(kind, 3, 3);
        }
        return x;
    }

    private static LentTerms ofCommon(int terms, int copies) {
        LentTerms x = new LentTerms();
        for (int i = 0; i < terms; i++) {
            x.term(0, copies, 1);
        }
        return x;
    }

    private static int typed(LentTerms x, String text) {
        int size = x.count(6);
        for (int i = 0; i < text.length(); i++) {
            size = x.type(text.charAt(i), 1);
        }
        return size;
    }

    private static int readOf(LentTerms x, String text) {
        x.clear();
        typed(x, text);
        return x.read();
    }

    private static void newObject() {
        due(1, "the constants", LentTerms.NONE * 1000 + LentTerms.BAD * 100 + LentTerms.NO * 10 + LentTerms.FULL, -1234);
        LentTerms x = new LentTerms();
        for (int what = 0; what < 7; what++) {
            due(1, "count(" + what + ")", x.count(what), 0);
        }
        due(1, "part(0)", x.part(0), 0);
        due(1, "part(1)", x.part(1), 1);
        for (int what = 0; what < 3; what++) {
            due(1, "status(" + what + ")", x.status(what), 0);
        }
        due(1, "wrong()", x.wrong(), -1);
        due(1, "judge()", x.judge(), -1);
        due(1, "buy()", x.buy(), -1);
        due(1, "plan(-1)", x.plan(-1), 0);
        due(1, "stuck(0)", x.stuck(0), 0);
        due(1, "stuck(1)", x.stuck(1), 0);
        due(1, "deal(-1)", x.deal(-1), 0);
        due(1, "about(0)", x.about(0), 0);
        due(1, "dumb(0)", x.dumb(0), 0);
        due(1, "from(0)", x.from(0), -3);
        due(1, "from(1)", x.from(1), -3);
    }

    private static void terms() {
        LentTerms x = new LentTerms();
        int[][] bad = {{-1, 1, 0}, {6, 1, 0}, {0, 0, 0}, {0, 4, 0}, {0, 1, -1}, {0, 1, 10}, {MAX, 1, 0}, {0, MIN, 0}, {0, 1, MAX}};
        for (int[] b : bad) {
            due(2, "a bad term", x.term(b[0], b[1], b[2]), -2);
        }
        int[][] good = {{0, 1, 0}, {5, 3, 9}, {1, 2, 5}, {2, 1, 1}, {3, 1, 1}, {4, 1, 1}, {0, 3, 0}, {0, 1, 9}};
        for (int i = 0; i < 8; i++) {
            due(2, "term " + i, x.term(good[i][0], good[i][1], good[i][2]), i);
        }
        due(2, "a ninth", x.term(0, 1, 1), -4);
        due(2, "BAD ahead of FULL", x.term(6, 1, 1), -2);
        due(2, "count(0)", x.count(0), 8);
        due(2, "bad ones", x.status(0), bad.length + 1);
        due(2, "full ones", x.status(2), 1);
    }

    private static void mayAndLong() {
        LentTerms x = ofEachKind();
        int[] may = {3, 3, 1, 3, 1, 1}, hours = {24, 2, 24, 2, 24, 2};
        for (int kind = 0; kind < 6; kind++) {
            due(3, "may of kind " + kind, x.may(kind, 0), may[kind]);
            due(3, "LONG of kind " + kind, x.may(kind, 1), hours[kind]);
        }
        due(3, "two copies", ofCommon(1, 2).may(0, 0), 2);
        int[][] bad = {{6, 0}, {-1, 0}, {0, 2}, {0, -1}, {MAX, 1}, {MIN, MIN}};
        for (int[] b : bad) {
            due(3, "a bad may", x.may(b[0], b[1]), -2);
        }
        due(3, "status(0)", x.status(0), bad.length);
    }

    private static void costs() {
        LentTerms x = ofEachKind();
        int[] first = {3, 3, 3, 3, 8, 1}, third = {9, 9, 9, 21, 14, 10}, last = {72, 72, 72, 50331645, 77, 25165822};
        for (int kind = 0; kind < 6; kind++) {
            due(4, "1 hour of kind " + kind, x.cost(kind, 1), first[kind]);
            due(4, "3 hours of kind " + kind, x.cost(kind, 3), third[kind]);
            due(4, "24 hours of kind " + kind, x.cost(kind, 24), last[kind]);
        }
        int[][] bad = {{0, 0}, {0, 25}, {0, -1}, {6, 1}, {-1, 1}, {MAX, MAX}, {MIN, 1}};
        for (int[] b : bad) {
            due(4, "a bad cost", x.cost(b[0], b[1]), -2);
        }
        LentTerms free = new LentTerms();
        free.term(4, 1, 0);
        due(4, "KEPT for no FEE", free.cost(0, 7), 5);
    }

    private static void loans() {
        LentTerms x = ofCommon(1, 1);
        int[][] bad = {{-1, 0, 0, 0}, {5, 0, 0, 0}, {0, 1, 0, 0}, {0, -1, 0, 0}, {0, 0, -1, 3}, {0, 0, 3, 24}, {0, 0, 4, 3},
            {0, 0, 24, 24}, {MAX, 0, 0, 0}, {0, 0, MIN, MAX}};
        for (int[] b : bad) {
            due(5, "a bad loan", x.loan(b[0], b[1], b[2], b[3]), -2);
        }
        due(5, "all day", x.loan(4, 0, 0, 23), 0);
        due(5, "one hour", x.loan(0, 0, 23, 23), 1);
        for (int i = 2; i < 10; i++) {
            due(5, "loan " + i, x.loan(i % 5, 0, i, i + 1), i);
        }
        due(5, "an eleventh", x.loan(0, 0, 0, 0), -4);
        due(5, "BAD ahead of FULL", x.loan(5, 0, 0, 0), -2);
        due(5, "count(1)", x.count(1), 10);
    }

    private static void closing() {
        LentTerms x = ofCommon(2, 1);
        x.loan(0, 0, 1, 2);
        x.loan(1, 0, 1, 2);
        x.loan(1, 1, 1, 2);
        x.said(2, 0, 1);
        x.rule(0, 1, 1);
        due(6, "close()", x.close(), 3);
        due(6, "no LOANS", x.count(1), 0);
        due(6, "nothing SAID", x.count(2), 0);
        due(6, "TERMS stay", x.count(0), 2);
        due(6, "RULES stay", x.count(3), 1);
        due(6, "wrong()", x.wrong(), -1);
        due(6, "judge()", x.judge(), -1);
        due(6, "close() again", x.close(), 0);
        due(6, "a LOAN from 0 on", x.loan(0, 0, 1, 1), 0);
    }

    private static void wrongLoans() {
        LentTerms x = ofCommon(1, 2);
        x.loan(0, 0, 0, 5);
        x.loan(0, 0, 5, 9);
        due(7, "two in hour 5", x.wrong(), -1);
        x.loan(1, 0, 6, 9);
        due(7, "the third begins in 6", x.wrong(), -1);
        x.loan(2, 0, 10, 10);
        x.loan(0, 0, 4, 5);
        due(7, "three in hour 5", x.wrong(), 4);
        x.loan(0, 0, 0, 23);
        due(7, "the first one stays", x.wrong(), 4);

        LentTerms y = ofEachKind();
        y.loan(0, 1, 3, 4);
        y.loan(0, 3, 22, 23);
        y.loan(0, 5, 0, 1);
        y.loan(0, 4, 0, 23);
        due(7, "two hours of SHORT ones", y.wrong(), -1);
        y.loan(0, 5, 10, 12);
        due(7, "three hours of a GRAND one", y.wrong(), 4);
        y.close();
        y.loan(1, 2, 0, 3);
        y.loan(1, 2, 3, 4);
        due(7, "one has a SINGLE one twice", y.wrong(), 1);
        y.close();
        y.loan(0, 3, 0, 2);
        due(7, "three hours of a DEAR one", y.wrong(), 0);
    }

    private static void lendable() {
        LentTerms x = ofEachKind();
        due(8, "in(0)", x.in(0), 63);
        x.loan(0, 2, 3, 5);
        x.loan(0, 0, 5, 5);
        x.loan(0, 0, 5, 5);
        due(8, "before", x.in(2), 63);
        due(8, "its first hour", x.in(3), 63 - 4);
        due(8, "its last hour", x.in(5), 63 - 4);
        due(8, "behind", x.in(6), 63);
        x.loan(1, 0, 5, 5);
        due(8, "three of three", x.in(5), 63 - 4 - 1);
        x.loan(1, 0, 5, 5);
        x.loan(1, 1, 0, 23);
        x.loan(1, 1, 0, 23);
        x.loan(1, 1, 23, 23);
        due(8, "wrong ones, too", x.in(23), 63 - 2);
        due(8, "more than may", x.in(5), 63 - 4 - 1);
        int[] bad = {-1, 24, MAX, MIN};
        for (int b : bad) {
            due(8, "in(" + b + ")", x.in(b), -2);
        }
        due(8, "status(0)", x.status(0), 4);
    }

    private static void bills() {
        LentTerms x = ofEachKind();
        due(9, "no LOANS", x.bill(0), 0);
        x.loan(0, 0, 2, 4);
        x.loan(1, 0, 2, 4);
        x.loan(0, 4, 0, 0);
        x.loan(0, 5, 1, 3);
        due(9, "three of his", x.bill(0), 9 + 8 + 10);
        due(9, "one of his", x.bill(1), 9);
        due(9, "none of his", x.bill(4), 0);
        int[] bad = {-1, 5, MAX, MIN};
        for (int b : bad) {
            due(9, "bill(" + b + ")", x.bill(b), -2);
        }
        LentTerms y = new LentTerms();
        y.term(3, 1, 9);
        for (int i = 0; i < 10; i++) {
            y.loan(2, 0, 0, 23);
        }
        due(9, "the most", y.bill(2), 1509949350);
    }

    private static void sayingAndJudging() {
        LentTerms x = ofCommon(2, 1);
        int[][] bad = {{-1, 0, 0}, {5, 0, 0}, {0, 2, 0}, {0, -1, 0}, {0, 0, -1}, {0, 0, 24}, {MAX, MAX, MAX}};
        for (int[] b : bad) {
            due(10, "a bad said", x.said(b[0], b[1], b[2]), -2);
        }
        x.loan(0, 0, 3, 5);
        x.loan(1, 1, 0, 23);
        due(10, "its first hour", x.said(0, 0, 3), 0);
        due(10, "its last hour", x.said(0, 0, 5), 1);
        due(10, "one of all day", x.said(1, 1, 23), 2);
        due(11, "all had it", x.judge(), -1);
        due(10, "another's", x.said(1, 0, 4), 3);
        due(11, "another had it", x.judge(), 3);
        due(10, "too late", x.said(0, 0, 6), 4);
        due(11, "the first", x.judge(), 3);
        for (int i = 5; i < 10; i++) {
            due(10, "said " + i, x.said(4, 1, 0), i);
        }
        due(10, "an eleventh", x.said(0, 0, 0), -4);
        due(10, "BAD ahead of FULL", x.said(0, 0, 24), -2);
        due(10, "count(2)", x.count(2), 10);
        x.loan(1, 0, 4, 4);
        due(11, "lent later on", x.judge(), 4);
        LentTerms y = ofCommon(2, 1);
        y.loan(0, 0, 3, 5);
        y.said(0, 0, 2);
        due(11, "too early", y.judge(), 0);
        LentTerms z = ofCommon(2, 1);
        z.loan(0, 0, 3, 5);
        z.said(0, 1, 4);
        due(11, "another TERM", z.judge(), 0);
    }

    private static void typing() {
        LentTerms x = new LentTerms();
        due(12, "no bytes", x.type(1, 0), -2);
        due(12, "nine bytes", x.type(1, 9), -2);
        due(12, "MIN bytes", x.type(1, MIN), -2);
        due(12, "the lowest of a long", x.type(0x7465726d20302031L, 8), 8);
        due(12, "some of the lowest", x.type(0x1122334455203b3bL, 1), 9);
        due(13, "clear()", x.clear(), 9);
        due(13, "clear() again", x.clear(), 0);
        due(12, "highest first", x.type(0x7465726d20302031L, 8), 8);
        due(12, "more", x.type(0xff20333bL, 3), 11);
        due(12, "as typed", x.read(), 1);
        due(12, "its FEE", x.cost(0, 1), 3);
        x.clear();
        for (int i = 1; i <= 30; i++) {
            due(12, "8 more", x.type(-1L, 8), 8 * i);
        }
        due(12, "11 over", x.type(0, 8), 248);
        due(12, "3 at 248", x.type(0, 3), -4);
        due(12, "BAD ahead of FULL", x.type(0, 9), -2);
        due(12, "nothing came", x.count(6), 248);
        due(12, "the last two", x.type(0, 2), 250);
        due(12, "one more", x.type(0, 1), -4);
        due(12, "FULL ones", x.status(2), 2);
        due(13, "all of them", x.clear(), 250);
        due(13, "count(6)", x.count(6), 0);
    }

    private static void reading() {
        LentTerms x = new LentTerms();
        x.term(5, 1, 1);
        x.worth(0, 0, 7);
        x.waits(1, 1, 0);
        x.saying(1, 1);
        x.odds(0, 0);
        x.image(1);
        due(14, "all ITEMS", readOf(x, " term0 2 3;term 1 1 009 ; rule 1 0 0;loan 4 0 1 2; want 2 3 5 10;saying 3 9 ;  "), 6);
        due(14, "TERMS", x.count(0), 2);
        due(14, "LOANS", x.count(1), 1);
        due(14, "SAID", x.count(2), 0);
        due(14, "RULES", x.count(3), 1);
        due(14, "WANTS", x.count(4), 1);
        due(14, "SAYINGS", x.count(5), 1);
        due(14, "FEE 009", x.cost(1, 1), 9);
        due(14, "the LOAN", x.bill(4), 6);
        due(14, "the WANT", x.plan(0), 5);
        due(14, "the SAYING", x.about(3), 1);
        due(14, "the RULE", x.roundAbout(1, 1, -1), 2);
        due(14, "no WORTH", x.worth(0, 0, 0), 0);
        due(14, "nobody has any", x.stuck(0), 0);
        due(14, "THE TEXT stays", x.count(6), 79);
        due(14, "THE FRACTION stays", x.part(0), 1);
        due(14, "an IMAGE stays", x.from(1), 1);
        due(14, "what it kept", x.count(0) * 10 + x.worth(0, 0, 7), 17);

        due(14, "an empty TEXT", readOf(x, ""), 0);
        due(14, "nothing told", x.count(0), 0);
        x.term(0, 1, 1);
        due(14, "blanks alone", readOf(x, "   "), 0);
        due(14, "nothing told", x.count(0), 0);
        due(14, "no blanks needed", readOf(x, "term0 1 1;term0 1 1;"), 2);
        due(14, "999 is a number", readOf(x, "term 0 1 999;"), -1000);
        due(14, "eight TERMS", readOf(x, "term 0 1 1;term 0 1 1;term 0 1 1;term 0 1 1;term 0 1 1;term 0 1 1;term 0 1 1;term 0 1 1;"), 8);
        due(14, "no refusal", x.status(0) + x.status(1) + x.status(2), 0);
    }

    private static void readingAgain() {
        LentTerms x = new LentTerms();
        String all = "term 0 1 1;term 1 2 3;term 2 3 4;rule 0 1 2;loan 3 1 5 6;loan 1 2 5 6;want 4 6 1 3;saying 5 7;";
        due(14, "all of it", readOf(x, all), 8);
        due(14, "all of it, told by numbers", x.digest(), folded(3, 2, 0, 1, 1, 1, all.length(), 0, 1, 1, 1, 2, 3, 2, 3, 4,
            3, 1, 5, 6, 1, 2, 5, 6, 0, 1, 2, 4, 6, 1, 3, 0, 0, 0, 0, 0, 0, 0, 0, 0, 0, 0, 0, 0, 0, 0, 0, 0, 0, 0, 0, 0, 0, 0, 0, 0,
            5, 7, 0, 1));
        long first = x.digest();
        x.said(3, 1, 5);
        for (int p = 0; p < 5; p++) {
            x.waits(p, 1, 6);
            x.worth(p, p % 3, 9);
        }
        for (int i = 0; i < 3; i++) {
            due(14, "all of it, again", x.read(), 8);
            due(14, "nothing else", x.digest(), first);
            x.said(3, 1, 5);
            x.waits(i, 2, 1);
            x.worth(i, 2, 9);
        }
        int size = all.length();
        due(14, "one TERM alone", readOf(x, "term 3 3 3;"), 1);
        due(14, "none of what stood", x.count(1) + x.count(2) + x.count(3) + x.count(4) + x.count(5), 0);
        x.clear();
        typed(x, all);
        x.read();
        due(14, "refused", readOf(x, "term 5 1 1;loan 0 0 9 8;"), -1001);
        x.clear();
        typed(x, all);
        due(14, "what was read before stays", x.digest(), first);
        due(14, "THE TEXT", x.count(6), size);
    }

    private static void readingFaults() {
        LentTerms x = ofCommon(3, 1);
        String[] texts = {";", "term", "term ", "term 0", "term 0 1", "term 0 1 1", "term 0 1 1  ", "term 0 1;", "term 0 1 1 1;",
            "term 0 1 1;;", "ter", "terms 0 1 1;", "term 0 1 1;  rul", "term 1000 1 1;", "term 0 1 12345", "0 1 1;", "term term",
            "Term", "term 0 1 1;term 0 1 1", "termrule 1 0 0;", "term 0,1 1;", "term 0 1 1; \u00e9", "saying 1 1 1;", "want 1 1 1;",
            "rule 0 0000 0;", "term\t0", "term 0 1 1;1234", "term 0 1 x", "loan 0 0 1;", "a", "\u0000", "term 0 1 -1;", "term 9 9 9;loan;",
            "termz 0 1 1;", "aterm 0 1 1;", "xerm 0 1 1;", "ter0", "terx 0 1 1;", "term 0 1 1 ;ruleloan"};
        int[] faults = {0, 4, 5, 6, 8, 10, 12, 8, 11, 11, 0, 0, 13, 5, 9, 0, 5, 0, 21, 0, 6, 12, 11, 10, 7, 4, 11, 9, 10, 0, 0, 9, 15,
            0, 0, 0, 0, 0, 12};
        for (int i = 0; i < texts.length; i++) {
            due(14, "<" + texts[i] + ">", readOf(x, texts[i]), -10 - faults[i]);
        }
        due(14, "nothing changed", x.count(0), 3);
        due(14, "no refusal", x.status(0), 0);
        x.clear();
        for (int i = 0; i < 31; i++) {
            x.type(0x2020202020202020L, 8);
        }
        x.type(0x2061, 2);
        due(14, "a FAULT in the last byte", x.read(), -10 - 249);
        x.clear();
        x.type('r', 1);
        typed(x, "ule 0");
        while (x.count(6) < 250) {
            x.type(' ', 1);
        }
        due(14, "250 bytes that end too early", x.read(), -10 - 250);
    }

    private static void readingRefusals() {
        LentTerms x = ofCommon(3, 1);
        String[] texts = {"rule 0 1 1;", "term 6 1 1;", "term 0 1 1;loan 0 0 4 3;", "term 0 1 1;want 0 1 1 7;",
            "term 0 1 1;term 0 1 1;saying 0 1;", "term 0 1 1;saying 2 1;", "term 0 0 1;term 0 4 1;", "term 0 1 1;loan 5 0 0 0;",
            "term 0 1 1;want 0 1 23 24;", "term 0 1 1;rule 0 0 0;"};
        int[] refused = {0, 0, 1, 1, 2, 1, 0, 1, 1, 1};
        for (int i = 0; i < texts.length; i++) {
            due(14, "<" + texts[i] + ">", readOf(x, texts[i]), -1000 - refused[i]);
        }
        String nine = "term0 1 1;";
        due(14, "a ninth TERM", readOf(x, nine + nine + nine + nine + nine + nine + nine + nine + nine), -1008);
        due(14, "a TERM that comes later", readOf(x, "term 0 1 1;rule 0 1 1;term 0 1 1;"), -1001);
        due(14, "nothing changed", x.count(0), 3);
        due(14, "ITEMS are none", x.status(0) + x.status(1) + x.status(2), 0);
    }

    private static void rules() {
        LentTerms x = ofCommon(3, 1);
        int[][] bad = {{0, 0, 1}, {0, 1, 0}, {1, 1, 1}, {3, 0, 1}, {0, 3, 1}, {0, 1, 3}, {-1, 0, 1}, {0, -1, 1}, {0, 1, MIN}, {MAX, 1, 1}};
        for (int[] b : bad) {
            due(15, "a bad rule", x.rule(b[0], b[1], b[2]), -2);
        }
        for (int i = 0; i < 8; i++) {
            due(15, "rule " + i, x.rule(i % 3, (i + 1) % 3, i % 2 == 0 ? (i + 1) % 3 : (i + 2) % 3), i);
        }
        due(15, "a ninth", x.rule(0, 1, 2), -4);
        due(15, "BAD ahead of FULL", x.rule(0, 0, 2), -2);
        due(15, "count(3)", x.count(3), 8);
    }

    private static String rowOf(LentTerms x, int term, int set) {
        StringBuilder row = new StringBuilder();
        for (int i = 0; i < x.roundAbout(term, set, -1); i++) {
            row.append(x.roundAbout(term, set, i));
        }
        return row.toString();
    }

    private static void dueRow(LentTerms x, int term, int set, String row) {
        due(16, "how many of " + term + " by " + set, x.roundAbout(term, set, -1), row.length());
        due(16, rowOf(x, term, set) + " is " + row, rowOf(x, term, set).equals(row) ? 1 : 0, 1);
        due(16, "one more", x.roundAbout(term, set, row.length()), -5);
    }

    private static void roundAbout() {
        LentTerms x = ofCommon(6, 1);
        x.rule(0, 1, 2);
        x.rule(0, 3, 4);
        x.rule(1, 3, 4);
        x.rule(2, 5, 5);
        x.rule(0, 5, 3);
        dueRow(x, 0, 63, "0");
        dueRow(x, 0, 62, "12");
        dueRow(x, 0, 56, "34");
        dueRow(x, 0, 40, "53");
        due(16, "one of two TERMS", x.roundAbout(0, 36, -1), -1);
        dueRow(x, 1, 24, "34");
        dueRow(x, 2, 32, "55");
        due(16, "not by these", x.roundAbout(0, 4, -1), -1);
        due(16, "not by these, its first", x.roundAbout(0, 4, 0), -1);
        due(16, "by none", x.roundAbout(3, 0, -1), -1);
        int[][] bad = {{6, 0, -1}, {-1, 0, -1}, {0, 64, -1}, {0, -1, -1}, {0, 0, -2}, {0, MIN, 0}, {MAX, 0, 0}, {0, 1, MIN}};
        for (int[] b : bad) {
            due(16, "a bad roundAbout", x.roundAbout(b[0], b[1], b[2]), -10);
        }
        due(16, "status(0)", x.status(0), bad.length);
        due(16, "far behind", x.roundAbout(0, 1, MAX), -5);

        LentTerms chain = ofCommon(8, 1);
        for (int t = 0; t < 7; t++) {
            chain.rule(6 - t, 7 - t, 7 - t);
        }
        due(16, "128 in all", chain.roundAbout(0, 128, -1), 128);
        due(16, "the last one", chain.roundAbout(0, 128, 127), 7);
        due(16, "behind the last one", chain.roundAbout(0, 128, 128), -5);

        LentTerms ring = ofCommon(4, 1);
        ring.rule(0, 1, 1);
        ring.rule(1, 0, 0);
        due(16, "a ring", ring.roundAbout(0, 12, -1), -1);
        ring.rule(1, 2, 3);
        dueRow(ring, 0, 12, "2323");
        ring.rule(1, 3, 2);
        dueRow(ring, 0, 12, "2323");
    }

    private static void wants() {
        LentTerms x = ofCommon(4, 1);
        int[][] bad = {{-1, 1, 0, 0}, {5, 1, 0, 0}, {0, 0, 0, 0}, {0, 15, 0, 0}, {0, 16, 0, 0}, {0, -1, 0, 0}, {0, 1, -1, 0},
            {0, 1, 3, 2}, {0, 1, 0, 6}, {0, 1, 20, 24}, {0, 1, 24, 24}, {0, MIN, 0, 0}, {0, 1, MIN, MAX}, {0, 17, 0, 0}};
        for (int[] b : bad) {
            due(17, "a bad want", x.want(b[0], b[1], b[2], b[3]), -2);
        }
        due(17, "three TERMS, 5 later", x.want(4, 14, 18, 23), 0);
        for (int i = 1; i < 5; i++) {
            due(17, "want " + i, x.want(0, 1, 0, 0), i);
        }
        due(17, "a sixth", x.want(0, 1, 0, 0), -4);
        due(17, "BAD ahead of FULL", x.want(0, 0, 0, 0), -2);
        due(17, "count(4)", x.count(4), 5);
    }

    private static void duePlan(LentTerms x, int met, int... hours) {
        due(18, "MET", x.plan(-1), met);
        for (int w = 0; w < hours.length; w++) {
            due(18, "plan(" + w + ")", x.plan(w), hours[w]);
        }
    }

    private static void plans() {
        LentTerms x = ofCommon(2, 1);
        x.want(0, 1, 4, 5);
        x.want(1, 1, 4, 4);
        duePlan(x, 2, 5, 4);
        x.want(2, 1, 4, 5);
        duePlan(x, 2, 4, 24, 5);
        x.want(2, 2, 5, 5);
        duePlan(x, 3, 5, 4, 24, 5);
        x.loan(0, 0, 0, 23);
        duePlan(x, 3, 5, 4, 24, 5);
        int[] bad = {-2, 4, 5, MAX, MIN};
        for (int b : bad) {
            due(18, "plan(" + b + ")", x.plan(b), -10);
        }
        due(18, "status(0)", x.status(0), bad.length);

        LentTerms one = ofCommon(2, 3);
        one.want(3, 1, 7, 8);
        one.want(3, 2, 7, 8);
        one.want(3, 1, 7, 8);
        one.want(4, 1, 7, 8);
        duePlan(one, 3, 7, 8, 24, 7);

        LentTerms three = ofCommon(3, 1);
        three.want(0, 7, 0, 5);
        three.want(1, 1, 0, 0);
        three.want(2, 2, 1, 1);
        three.want(3, 4, 2, 2);
        duePlan(three, 4, 3, 0, 1, 2);

        LentTerms two = ofCommon(1, 2);
        for (int i = 0; i < 3; i++) {
            two.want(i, 1, 23, 23);
        }
        duePlan(two, 2, 23, 23, 24);
    }

    private static void buying() {
        LentTerms x = ofEachKind();
        due(19, "no WANTS", x.buy(), -1);
        int[] kinds = {0, 1, 2, 3, 4, 5}, due = {0, 0, -1, 0, -1, -1};
        for (int i = 0; i < 6; i++) {
            LentTerms y = new LentTerms();
            y.term(kinds[i], 1, 1);
            y.want(0, 1, 5, 5);
            y.want(1, 1, 5, 5);
            due(19, "of kind " + kinds[i], y.buy(), due[i]);
        }
        LentTerms full = ofCommon(1, 3);
        for (int i = 0; i < 5; i++) {
            full.want(i, 1, 9, 9);
        }
        due(19, "three copies", full.buy(), -1);
        LentTerms z = ofCommon(3, 1);
        z.want(0, 4, 5, 5);
        z.want(1, 4, 5, 5);
        z.want(2, 2, 6, 6);
        due(19, "the TERM that is short", z.buy(), 2);
        z.want(3, 2, 6, 6);
        due(19, "the least of like ones", z.buy(), 1);
        z.want(4, 4, 5, 5);
        due(19, "one more is one more", z.buy(), 1);
        due(19, "nothing is bought", z.may(1, 0), 1);
        LentTerms most = ofCommon(3, 1);
        most.want(0, 1, 5, 5);
        most.want(1, 5, 5, 5);
        most.want(1, 2, 7, 7);
        most.want(2, 2, 7, 8);
        most.want(3, 2, 7, 8);
        due(19, "1 lets five be met less one", most.buy(), 0);
        LentTerms two = ofCommon(2, 1);
        two.want(0, 1, 1, 1);
        two.want(1, 3, 1, 1);
        two.want(2, 2, 1, 2);
        two.want(3, 2, 1, 2);
        two.want(4, 2, 1, 2);
        due(19, "only 1 lets one more be met", two.buy(), 1);
    }

    private static void waiting() {
        LentTerms x = ofCommon(3, 1);
        int[][] bad = {{-1, 0, 0}, {5, 0, 0}, {0, 8, 0}, {0, 0, 8}, {0, -1, 0}, {0, 0, MIN}, {0, 1, 1}, {0, 7, 4}, {MAX, 0, 0}};
        for (int[] b : bad) {
            due(20, "a bad waits", x.waits(b[0], b[1], b[2]), -2);
        }
        due(20, "waits(0, 1, 2)", x.waits(0, 1, 2), 1);
        due(20, "waits(1, 2, 4)", x.waits(1, 2, 4), 1);
        due(20, "waits(2, 4, 0)", x.waits(2, 4, 0), 1);
        due(21, "a chain comes loose", x.stuck(0), 0);
        due(21, "nothing to break", x.stuck(1), 0);
        due(20, "a ring", x.waits(2, 4, 1), 1);
        due(21, "all three", x.stuck(0), 7);
        due(21, "the least of like ones", x.stuck(1), 1);
        due(20, "a guest", x.waits(4, 0, 1), 1);
        due(21, "he is stuck, too", x.stuck(0), 7 + 16);
        due(21, "he has nothing to give", x.stuck(1), 1);
        due(20, "told anew", x.waits(2, 0, 1), 1);
        due(21, "he has nothing now", x.stuck(0), 0);
        int[] what = {-1, 2, MAX, MIN};
        for (int b : what) {
            due(21, "stuck(" + b + ")", x.stuck(b), -2);
        }
    }

    private static void breaking() {
        LentTerms x = ofCommon(4, 1);
        x.waits(0, 1, 2);
        x.waits(1, 2, 1);
        x.waits(2, 4, 8);
        x.waits(3, 8, 4);
        due(21, "two rings", x.stuck(0), 15);
        due(21, "one of each", x.stuck(1), 1 + 4);
        x.waits(4, 0, 15);
        due(21, "who waits for all", x.stuck(0), 31);
        due(21, "one of each", x.stuck(1), 1 + 4);
        LentTerms y = ofCommon(2, 2);
        y.waits(0, 1, 2);
        y.waits(1, 2, 1);
        due(21, "two copies", y.stuck(0), 0);
        y.waits(2, 1, 2);
        y.waits(3, 2, 1);
        due(21, "both gone", y.stuck(0), 15);
        due(21, "one is enough", y.stuck(1), 1);
        y.waits(4, 1, 0);
        due(21, "three have it, one gives back: none is free", y.stuck(0), 15);
        y.waits(4, 3, 0);
        due(21, "as told", y.stuck(0), 15);
        LentTerms z = ofCommon(3, 1);
        z.waits(0, 1, 6);
        z.waits(1, 2, 1);
        z.waits(2, 4, 1);
        due(21, "one in the middle", z.stuck(1), 1);
        LentTerms last = ofCommon(3, 1);
        last.waits(0, 1, 4);
        last.waits(1, 2, 4);
        last.waits(2, 4, 3);
        due(21, "one bit of more worth", last.stuck(1), 4);
        LentTerms single = ofEachKind();
        single.waits(0, 4, 16);
        single.waits(1, 16, 4);
        due(21, "SINGLE and KEPT ones", single.stuck(0), 3);
    }

    private static void worths() {
        LentTerms x = ofCommon(2, 1);
        due(22, "0 at first", x.worth(0, 0, 99), 0);
        due(22, "what it was", x.worth(0, 0, 5), 99);
        due(22, "its own", x.worth(0, 1, 5), 0);
        due(22, "another's", x.worth(1, 0, 5), 0);
        due(22, "to 0", x.worth(0, 0, 0), 5);
        due(22, "from 0", x.worth(0, 0, 1), 0);
        int[][] bad = {{-1, 0, 0}, {5, 0, 0}, {0, 2, 0}, {0, -1, 0}, {0, 0, -1}, {0, 0, 100}, {MAX, 0, 0}, {0, MIN, 0}, {0, 0, MAX}};
        for (int[] b : bad) {
            due(22, "a bad worth", x.worth(b[0], b[1], b[2]), -2);
        }
        due(22, "unchanged", x.worth(0, 0, 1), 1);
        x.term(0, 1, 1);
        due(22, "of a new TERM", x.worth(4, 2, 3), 0);
    }

    private static void dueDeal(LentTerms x, int most, int... terms) {
        due(23, "WORTH in all", x.deal(-1), most);
        for (int p = 0; p < terms.length; p++) {
            due(23, "deal(" + p + ")", x.deal(p), terms[p]);
        }
    }

    private static void dealing() {
        LentTerms x = ofCommon(3, 1);
        dueDeal(x, 0, 8, 8, 8, 8, 8);
        x.worth(0, 0, 10);
        x.worth(0, 1, 9);
        x.worth(1, 0, 8);
        dueDeal(x, 17, 1, 0, 8, 8, 8);
        x.worth(2, 1, 9);
        dueDeal(x, 19, 0, 8, 1, 8, 8);
        x.worth(2, 2, 7);
        dueDeal(x, 24, 1, 0, 2, 8, 8);
        x.worth(1, 0, 7);
        x.worth(2, 1, 9);
        x.worth(2, 2, 0);
        x.worth(3, 2, 99);
        dueDeal(x, 118, 0, 8, 1, 2, 8);
        int[] bad = {-2, 5, MAX, MIN};
        for (int b : bad) {
            due(23, "deal(" + b + ")", x.deal(b), -10);
        }
        due(23, "status(0)", x.status(0), bad.length);

        x.worth(3, 2, 1);
        dueDeal(x, 20, 0, 8, 1, 2, 8);

        LentTerms tie = ofCommon(2, 1);
        for (int p = 0; p < 5; p++) {
            tie.worth(p, 0, 4);
            tie.worth(p, 1, 4);
        }
        dueDeal(tie, 8, 8, 8, 8, 0, 1);
        LentTerms copies = new LentTerms();
        copies.term(0, 3, 0);
        copies.term(2, 3, 0);
        for (int p = 0; p < 5; p++) {
            copies.worth(p, 0, 50 + p);
            copies.worth(p, 1, 49 + p);
        }
        dueDeal(copies, 51 + 52 + 53 + 53, 8, 0, 0, 0, 1);
    }

    private static void sayings() {
        LentTerms x = ofCommon(2, 1);
        int[][] bad = {{0, 1}, {4, 1}, {-1, 1}, {1, 0}, {1, 10}, {1, -1}, {MIN, 1}, {1, MAX}};
        for (int[] b : bad) {
            due(24, "a bad saying", x.saying(b[0], b[1]), -2);
        }
        for (int i = 0; i < 8; i++) {
            due(24, "saying " + i, x.saying(1 + i % 3, 1 + i), i);
        }
        due(24, "a ninth", x.saying(1, 9), -4);
        due(24, "BAD ahead of FULL", x.saying(0, 9), -2);
        due(24, "count(5)", x.count(5), 8);
    }

    private static void aboutAndOdds() {
        LentTerms x = ofCommon(3, 1);
        x.saying(3, 2);
        x.saying(2, 4);
        x.saying(7, 6);
        due(25, "all", x.about(0), 7);
        due(25, "two", x.about(1), 5);
        due(25, "all of these", x.about(2), 7);
        due(25, "both TERMS", x.about(3), 5);
        due(25, "three TERMS", x.about(7), 4);
        int[] bad = {8, -1, MAX, MIN};
        for (int b : bad) {
            due(25, "about(" + b + ")", x.about(b), -2);
        }
        due(26, "lowest terms", x.odds(0, 0), 1);
        due(28, "above", x.part(0), 1);
        due(28, "below", x.part(1), 6);
        due(26, "two of them", x.odds(1, 2), 1);
        due(28, "above", x.part(0), 3);
        due(28, "below", x.part(1), 4);
        due(26, "not one of them", x.odds(1, 1), -3);
        due(26, "a SAYING that is none", x.odds(0, 3), -2);
        due(26, "no SAYING", x.odds(0, -1), -2);
        due(26, "a TERM that is none", x.odds(8, 0), -2);
        due(26, "BAD ahead of NO", x.odds(8, 1), -2);
        due(26, "far off", x.odds(MIN, MAX), -2);
        due(26, "unchanged above", x.part(0), 3);
        due(26, "unchanged below", x.part(1), 4);
        due(26, "the only one", x.odds(4, 2), 1);
        due(28, "one by one", x.part(0) * 10 + x.part(1), 11);
        due(26, "NO ones", x.status(1), 1);
    }

    private static void dumb() {
        LentTerms x = ofCommon(4, 1);
        x.saying(1, 1);
        x.saying(6, 1);
        x.saying(12, 1);
        due(27, "no matter", x.dumb(0), 0);
        due(27, "itself", x.dumb(1), 1);
        due(27, "the least of two", x.dumb(2), 2);
        due(27, "one for two", x.dumb(6), 4);
        due(27, "all", x.dumb(7), 5);
        x.rule(0, 1, 2);
        due(27, "round about", x.dumb(1), 3);
        due(27, "kept for both", x.dumb(3), 3);
        due(27, "two for all", x.dumb(7), 5);
        x.rule(2, 3, 3);
        due(27, "two ways", x.dumb(1), 3);
        due(27, "the other, too", x.dumb(4), 8);
        x.rule(1, 3, 3);
        due(27, "three ways", x.dumb(1), 11);
        int[] bad = {8, -1, MAX, MIN};
        for (int b : bad) {
            due(27, "dumb(" + b + ")", x.dumb(b), -2);
        }
        LentTerms y = ofCommon(8, 1);
        for (int t = 0; t < 8; t++) {
            y.saying(1 << t, 1);
        }
        due(27, "all of them", y.dumb(255), 255);
        due(27, "half of them", y.dumb(0xaa), 0xaa);
    }

    private static void parts() {
        LentTerms x = ofCommon(1, 1);
        int[] bad = {-1, 2, MAX, MIN};
        for (int b : bad) {
            due(28, "part(" + b + ")", x.part(b), -2);
        }
        due(28, "above", x.part(0), 0);
        due(28, "below", x.part(1), 1);
        due(28, "status(0)", x.status(0), bad.length);
    }

    private static void images() {
        LentTerms x = ofCommon(2, 2);
        x.loan(1, 1, 2, 3);
        x.said(1, 1, 2);
        x.rule(0, 1, 1);
        x.want(0, 1, 0, 0);
        x.waits(0, 1, 2);
        x.worth(4, 1, 77);
        x.saying(3, 5);
        x.saying(1, 5);
        long before = x.digest();
        due(29, "image(0)", x.image(0), 1);
        x.odds(0, 0);
        x.type(';', 1);
        x.term(5, 1, 1);
        x.close();
        x.rule(0, 2, 1);
        x.want(0, 1, 0, 0);
        x.waits(0, 0, 0);
        x.worth(4, 1, 7);
        x.saying(3, 5);
        due(29, "image(1)", x.image(1), 1);
        long second = x.digest();
        due(30, "from(0)", x.from(0), 1);
        due(30, "THE TEXT stays", x.clear(), 1);
        due(30, "THE FRACTION stays", x.part(0) * 10 + x.part(1), 12);
        due(30, "count of LOANS and SAID", x.count(1) * 10 + x.count(2), 11);
        due(30, "WORTH", x.worth(4, 1, 77), 77);
        due(30, "all but the FRACTION", x.digest() - 31 * 1 - 2 + 1, before);
        x.type(';', 1);
        due(30, "from(1)", x.from(1), 1);
        due(30, "the other one", x.digest(), second);
        x.term(0, 1, 1);
        due(30, "from(1) again", x.from(1), 1);
        due(30, "an IMAGE is none of what follows it", x.digest(), second);
        due(29, "over the first", x.image(0), 1);
        due(30, "from(0)", x.from(0), 1);
        due(30, "the newer one", x.digest(), second);
        int[] bad = {-1, 2, MAX, MIN};
        for (int b : bad) {
            due(29, "image(" + b + ")", x.image(b), -2);
            due(30, "from(" + b + ")", x.from(b), -2);
        }
        due(30, "STATUS stays", x.status(0), 2 * bad.length);
        LentTerms other = ofCommon(2, 2);
        other.loan(1, 1, 2, 3);
        other.saying(1, 2);
        other.image(1);
        long told = other.digest();
        other.close();
        other.loan(2, 0, 7, 9);
        due(30, "another LOAN of the same number", other.digest() == told ? 1 : 0, 0);
        other.from(1);
        due(30, "the LOAN that was kept", other.digest(), told);
        LentTerms y = new LentTerms();
        y.image(1);
        due(30, "none kept", y.from(0), -3);
        due(30, "of no TERMS", y.from(1), 1);
        due(30, "status(1)", y.status(1), 1);
    }

    private static void statuses() {
        LentTerms x = new LentTerms();
        due(31, "another what", x.status(3), -1);
        due(31, "another what", x.status(-1), -1);
        due(31, "another what", x.status(MIN), -1);
        due(31, "these are BAD", x.status(0), 3);
        x.from(0);
        x.from(1);
        due(31, "NO", x.status(1), 2);
        x.deal(9);
        x.plan(9);
        x.roundAbout(0, 0, 0);
        due(31, "-10 is BAD", x.status(0), 6);
        typed(x, "x");
        x.read();
        readOf(x, "rule 0 0 0;");
        due(31, "a FAULT and an ITEM are none", x.status(0), 6);
        for (int i = 0; i < 10; i++) {
            x.term(0, 1, 1);
        }
        due(31, "FULL", x.status(2), 2);
        x.clear();
        x.read();
        x.image(0);
        x.from(0);
        due(31, "STATUS is not told anew", x.status(0) * 100 + x.status(1) * 10 + x.status(2), 622);
        x.roundAbout(0, 0, 0);
        x.wrong();
        x.judge();
        x.buy();
        due(31, "NONE is none", x.status(0), 7);
        x.term(0, 1, 1);
        x.roundAbout(0, 1, 5);
        x.roundAbout(0, 0, 5);
        due(31, "-5 and NONE are none", x.status(0), 7);
    }

    private static void counts() {
        LentTerms x = ofCommon(2, 2);
        x.loan(0, 0, 0, 0);
        x.loan(0, 0, 0, 0);
        x.loan(0, 0, 0, 0);
        x.said(0, 0, 0);
        for (int i = 0; i < 5; i++) {
            x.rule(0, 1, 1);
            x.want(0, 1, 0, 0);
        }
        x.want(0, 1, 0, 0);
        for (int i = 0; i < 7; i++) {
            x.saying(1, 1);
        }
        x.type(0, 6);
        int[] due = {2, 3, 1, 5, 5, 7, 6};
        for (int what = 0; what < 7; what++) {
            due(32, "count(" + what + ")", x.count(what), due[what]);
        }
        int[] bad = {-1, 7, MAX, MIN};
        for (int b : bad) {
            due(32, "count(" + b + ")", x.count(b), -2);
        }
        due(32, "status(0)", x.status(0), bad.length);
    }

    private static long folded(int... values) {
        long h = 719;
        for (int v : values) {
            h = 31 * h + v;
        }
        return h;
    }

    private static void digests() {
        LentTerms x = new LentTerms();
        due(33, "a new one", x.digest(), folded(0, 0, 0, 0, 0, 0, 0, 0, 0, 0, 0, 0, 0, 0, 0, 0, 0, 0, 1));
        x.term(0, 2, 9);
        x.term(5, 1, 4);
        x.loan(3, 1, 7, 11);
        x.said(2, 0, 23);
        x.rule(1, 0, 0);
        x.want(4, 3, 12, 17);
        x.waits(0, 1, 2);
        x.waits(4, 2, 0);
        x.worth(0, 0, 8);
        x.worth(3, 1, 99);
        x.saying(2, 3);
        x.saying(3, 6);
        x.odds(0, 1);
        x.type(7, 5);
        due(33, "one of all", x.digest(), folded(2, 1, 1, 1, 1, 2, 5, 0, 2, 9, 5, 1, 4, 3, 1, 7, 11, 2, 0, 23, 1, 0, 0, 4, 3, 12,
            17, 1, 2, 8, 0, 0, 0, 0, 0, 0, 0, 0, 0, 0, 0, 0, 99, 2, 0, 0, 0, 2, 3, 3, 6, 2, 3));
        due(33, "it changes nothing", x.digest(), x.digest());
    }
}
