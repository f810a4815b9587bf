import java.util.function.Supplier;

/** Promises 24 to 33: for each sentence of the document that names a boundary a test of its own. */
public final class StateBoundaries {
    private static final int MIN = Boundary.MIN, MAX = Boundary.MAX;
    private static final int NONE = Boundary.NONE, BAD = Boundary.BAD, NO = Boundary.NO, FULL = Boundary.FULL;

    private static final Boundary.Call SAYING = (x, a) -> x.saying(a[0], a[1]);
    private static final Boundary.Call ABOUT = (x, a) -> x.about(a[0]);
    private static final Boundary.Call ODDS = (x, a) -> x.odds(a[0], a[1]);
    private static final Boundary.Call DUMB = (x, a) -> x.dumb(a[0]);
    private static final Boundary.Call PART = (x, a) -> x.part(a[0]);
    private static final Boundary.Call IMAGE = (x, a) -> x.image(a[0]);
    private static final Boundary.Call FROM = (x, a) -> x.from(a[0]);
    private static final Boundary.Call STATUS = (x, a) -> x.status(a[0]);
    private static final Boundary.Call COUNT = (x, a) -> x.count(a[0]);
    private static final Boundary.Call DIGEST = (x, a) -> x.digest();

    public static void main(String[] args) throws ReflectiveOperationException {
        Boundary.run(StateBoundaries.class, 24, 33);
    }

    private static int[] n(int... numbers) {
        return numbers;
    }

    private static void due(String call, long got, long due) {
        Boundary.due(call, got, due);
    }

    private static Supplier<LentTerms> common(int terms) {
        return () -> Boundary.ofCommon(terms, 1);
    }

    // ---- promise 24: saying

    static void promise24ASetHasTermsThatAreThere() {
        Boundary.eachTaken(common(5), "saying", SAYING, n(1, 5), 0, n(1, 16, 31), 0);
        Boundary.eachRefused(common(5), "saying", SAYING, n(1, 5), 0, n(32, 33, 64, -1, MIN, MAX, MIN + 1), BAD);
        Boundary.eachTaken(common(8), "saying", SAYING, n(1, 5), 0, n(1, 128, 255), 0);
        Boundary.eachRefused(common(8), "saying", SAYING, n(1, 5), 0, n(256, 257, 511, -1, MIN, MAX), BAD);
        Boundary.eachRefused(LentTerms::new, "saying", SAYING, n(1, 5), 0, n(1, -1, MIN, MAX), BAD);
    }

    static void promise24NoTermsAreBad() {
        Boundary.refused(LentTerms::new, "saying", SAYING, n(0, 5), BAD);
        Boundary.refused(common(5), "saying", SAYING, n(0, 5), BAD);
        Boundary.refused(Boundary::some, "saying", SAYING, n(0, 5), BAD);
    }

    static void promise24UsedIs1To9() {
        Boundary.eachTaken(common(5), "saying", SAYING, n(1, 5), 1, n(1, 2, 8, 9), 0);
        Boundary.eachTaken(Boundary::some, "saying", SAYING, n(1, 5), 1, n(1, 9), 3);
        Boundary.eachRefused(common(5), "saying", SAYING, n(1, 5), 1, n(0, -1, 10, MIN, MAX), BAD);
        Boundary.eachRefused(Boundary::some, "saying", SAYING, n(1, 5), 1, n(0, -1, 10, MIN, MAX), BAD);
    }

    static void promise24TheLeastAndTheLargestAreKept() {
        LentTerms x = Boundary.ofCommon(8, 1);
        x.saying(1, 1);
        x.saying(255, 9);
        Boundary.Sheet due = Boundary.Sheet.ofCommon(8, 1);
        due.sayings = Boundary.rows(n(1, 1), n(255, 9));
        due("digest()", x.digest(), due.digest());
    }

    static void promise24EightComeAndANinthIsFull() {
        LentTerms x = Boundary.ofCommon(1, 1);
        for (int saying = 0; saying < 8; saying++) {
            due("SAYING " + saying, x.saying(1, 1), saying);
        }
        due("a ninth", x.saying(1, 1), FULL);
        due("count(5)", x.count(5), 8);
    }

    static void promise24FullChangesNothing() {
        Boundary.refused(Boundary::full, "saying", SAYING, n(1, 1), FULL);
        Boundary.refused(Boundary::full, "saying", SAYING, n(255, 9), FULL);
    }

    static void promise24BadIsAheadOfFull() {
        Boundary.eachRefused(Boundary::full, "saying", SAYING, n(1, 5), 0, n(0, 256, -1, MIN, MAX), BAD);
        Boundary.eachRefused(Boundary::full, "saying", SAYING, n(1, 5), 1, n(0, 10, -1, MIN, MAX), BAD);
    }

    // ---- promise 25: about

    static void promise25TakenIsOfTermsThatAreThere() {
        Boundary.eachTaken(Boundary::some, "about", ABOUT, n(0), 0, n(4, 8, 12), 4);
        Boundary.eachTaken(Boundary::some, "about", ABOUT, n(0), 0, n(15, 6), 0);
        Boundary.eachRefused(Boundary::some, "about", ABOUT, n(0), 0, n(16, 17, 32, 128, -1, MIN, MAX, MIN + 1), BAD);
        Boundary.eachTaken(Boundary::full, "about", ABOUT, n(0), 0, n(128), 128);
        Boundary.eachTaken(Boundary::full, "about", ABOUT, n(0), 0, n(255), 0);
        Boundary.eachRefused(Boundary::full, "about", ABOUT, n(0), 0, n(256, 511, -1, MIN, MAX), BAD);
    }

    static void promise25NoTermsNoSayings() {
        Boundary.taken(new LentTerms(), "about", ABOUT, n(0), 0);
        Boundary.eachRefused(LentTerms::new, "about", ABOUT, n(0), 0, n(1, -1, MIN, MAX), BAD);
        Boundary.eachTaken(common(8), "about", ABOUT, n(0), 0, n(0, 1, 128, 255), 0);
    }

    static void promise25WhoHasTakenNoneIsAboutToSayAny() {
        due("of three", Boundary.some().about(0), 7);
        due("of eight", Boundary.full().about(0), 255);
    }

    static void promise25AllOfTheseAndPerhapsMore() {
        LentTerms x = Boundary.ofCommon(3, 1);
        x.saying(1, 1);
        x.saying(3, 1);
        x.saying(7, 1);
        x.saying(6, 1);
        int[] taken = {0, 1, 2, 3, 4, 5, 6, 7}, due = {15, 7, 14, 6, 12, 4, 12, 4};
        for (int i = 0; i < 8; i++) {
            due("about(" + taken[i] + ")", x.about(taken[i]), due[i]);
        }
    }

    // ---- promise 26: odds

    static void promise26TakenIsOfTermsThatAreThere() {
        Boundary.eachTaken(Boundary::some, "odds", ODDS, n(0, 1), 0, n(0, 1, 2, 3), 1);
        Boundary.eachRefused(Boundary::some, "odds", ODDS, n(0, 1), 0, n(16, 17, 32, 128, -1, MIN, MAX), BAD);
        Boundary.eachTaken(Boundary::full, "odds", ODDS, n(0, 7), 0, n(1, 128, 129), 1);
        Boundary.eachRefused(Boundary::full, "odds", ODDS, n(0, 7), 0, n(256, 257, -1, MIN, MAX), BAD);
    }

    static void promise26TheSayingIsThere() {
        Boundary.eachTaken(Boundary::some, "odds", ODDS, n(0, 0), 1, n(0, 1, 2), 1);
        Boundary.eachRefused(Boundary::some, "odds", ODDS, n(0, 0), 1, n(-1, 3, 7, 8, 31, 32, MIN, MAX), BAD);
        Boundary.eachTaken(Boundary::full, "odds", ODDS, n(0, 0), 1, n(0, 7), 1);
        Boundary.eachRefused(Boundary::full, "odds", ODDS, n(0, 0), 1, n(-1, 8, 32, 39, MIN, MAX), BAD);
        Boundary.eachRefused(LentTerms::new, "odds", ODDS, n(0, 0), 1, n(0, -1, MIN, MAX), BAD);
    }

    static void promise26NoOneOfAboutIsNo() {
        Boundary.eachRefused(Boundary::some, "odds", ODDS, n(2, 0), 1, n(0, 2), NO);
        Boundary.eachRefused(Boundary::some, "odds", ODDS, n(0, 0), 0, n(2, 4, 15), NO);
        Boundary.eachRefused(Boundary::full, "odds", ODDS, n(128, 0), 1, n(0, 6), NO);
        Boundary.eachRefused(Boundary::full, "odds", ODDS, n(255, 0), 1, n(0, 7), NO);
    }

    static void promise26BadIsAheadOfNo() {
        Boundary.eachRefused(Boundary::some, "odds", ODDS, n(2, 0), 0, n(16, 18, -1, MIN, MAX), BAD);
        Boundary.eachRefused(Boundary::some, "odds", ODDS, n(15, 0), 1, n(-1, 3, MIN, MAX), BAD);
        Boundary.refused(Boundary::some, "odds", ODDS, n(MIN, MAX), BAD);
    }

    private static void dueOdds(LentTerms x, int taken, int saying, int above, int below) {
        due("odds(" + taken + ", " + saying + ")", x.odds(taken, saying), 1);
        due("part(0)", x.part(0), above);
        due("part(1)", x.part(1), below);
    }

    static void promise26TheOnlyOneIsOneByOne() {
        for (int used = 1; used <= 9; used++) {
            LentTerms x = Boundary.ofCommon(1, 1);
            x.saying(1, used);
            dueOdds(x, 1, 0, 1, 1);
        }
    }

    static void promise26TheLeastAndTheMostOfEight() {
        LentTerms x = Boundary.ofCommon(1, 1);
        x.saying(1, 1);
        for (int i = 0; i < 7; i++) {
            x.saying(1, 9);
        }
        dueOdds(x, 0, 0, 1, 64);
        dueOdds(x, 0, 7, 9, 64);
        LentTerms y = Boundary.ofCommon(1, 1);
        y.saying(1, 9);
        for (int i = 0; i < 7; i++) {
            y.saying(1, 1);
        }
        dueOdds(y, 1, 0, 9, 16);
        dueOdds(y, 1, 7, 1, 16);
        LentTerms z = Boundary.ofCommon(1, 1);
        for (int i = 0; i < 8; i++) {
            z.saying(1, 9);
        }
        dueOdds(z, 0, 3, 1, 8);
    }

    static void promise26LowestTermsOfAllThatCanBe() {
        for (int one = 1; one <= 9; one++) {
            for (int other = 1; other <= 9; other++) {
                LentTerms x = Boundary.ofCommon(1, 1);
                x.saying(1, one);
                x.saying(1, other);
                int shared = 1;
                for (int d = 2; d <= 9; d++) {
                    shared = one % d == 0 && (one + other) % d == 0 ? d : shared;
                }
                dueOdds(x, 1, 0, one / shared, (one + other) / shared);
            }
        }
    }

    static void promise26OnlyThoseOfAboutCount() {
        LentTerms x = Boundary.ofCommon(2, 1);
        x.saying(1, 4);
        x.saying(3, 6);
        x.saying(2, 9);
        dueOdds(x, 1, 1, 3, 5);
        dueOdds(x, 2, 1, 2, 5);
        dueOdds(x, 3, 1, 1, 1);
        dueOdds(x, 0, 1, 6, 19);
    }

    static void promise26TheFractionAloneChanges() {
        LentTerms x = Boundary.some();
        due("odds(1, 1)", x.odds(1, 1), 1);
        due("another FRACTION", x.part(0) * 100 + x.part(1), 913);
        due("odds(1, 0)", x.odds(1, 0), 1);
        due("all is as before", Boundary.alike(x, Boundary.some()), 1);
    }

    // ---- promise 27: dumb

    static void promise27AMatterIsOfSayingsThatAreThere() {
        Boundary.taken(Boundary.some(), "dumb", DUMB, n(0), 0);
        Boundary.eachRefused(Boundary::some, "dumb", DUMB, n(0), 0, n(8, 9, 16, 128, -1, MIN, MAX, MIN + 1), BAD);
        Boundary.taken(Boundary.full(), "dumb", DUMB, n(0), 0);
        Boundary.eachRefused(Boundary::full, "dumb", DUMB, n(0), 0, n(256, 257, 511, -1, MIN, MAX), BAD);
        Boundary.taken(new LentTerms(), "dumb", DUMB, n(0), 0);
        Boundary.eachRefused(LentTerms::new, "dumb", DUMB, n(0), 0, n(1, -1, MIN, MAX), BAD);
        Boundary.eachRefused(common(8), "dumb", DUMB, n(0), 0, n(1, 255, -1, MIN, MAX), BAD);
    }

    private static LentTerms ofEightSayings() {
        LentTerms x = Boundary.ofCommon(8, 1);
        for (int saying = 0; saying < 8; saying++) {
            x.saying(1 << saying, 1);
        }
        return x;
    }

    static void promise27FromNoneToAllTerms() {
        LentTerms x = ofEightSayings();
        for (int matter : n(0, 1, 2, 128, 127, 129, 254, 255)) {
            due("dumb(" + matter + ")", x.dumb(matter), matter);
        }
    }

    static void promise27OneTermIsEnoughForASayingWithoutRules() {
        LentTerms x = Boundary.ofCommon(8, 1);
        x.saying(255, 1);
        x.saying(128, 1);
        x.saying(192, 1);
        due("the least bits", x.dumb(1), 1);
        due("the only TERM", x.dumb(2), 128);
        due("the least of two", x.dumb(4), 64);
        due("one for all", x.dumb(7), 128);
    }

    static void promise27TheFewestAheadOfTheLeastBits() {
        LentTerms x = Boundary.ofCommon(8, 1);
        x.saying(128 + 1, 1);
        x.saying(128 + 2, 1);
        due("one", x.dumb(1), 1);
        due("both", x.dumb(3), 128);
    }

    static void promise27ByTheOthersRoundAbout() {
        LentTerms x = Boundary.ofCommon(4, 1);
        x.saying(1, 1);
        due("no RULE", x.dumb(1), 1);
        x.rule(0, 1, 2);
        due("one RULE", x.dumb(1), 1 + 2);
        x.rule(0, 3, 3);
        due("two RULES", x.dumb(1), 1 + 2 + 8);
        x.rule(1, 2, 2);
        due("u by another RULE", x.dumb(1), 1 + 4 + 8);
    }

    static void promise27ARingOfRulesSaysNothing() {
        LentTerms x = Boundary.ofCommon(3, 1);
        x.rule(0, 1, 2);
        x.rule(1, 0, 2);
        x.saying(3, 1);
        due("dumb(1)", x.dumb(1), 3);
    }

    static void promise27AllOfItsTermsMustBeSaid() {
        LentTerms x = Boundary.ofCommon(4, 1);
        x.saying(3, 1);
        x.rule(0, 2, 2);
        due("dumb(1)", x.dumb(1), 2);
        x.rule(1, 3, 3);
        due("the other has a RULE, too", x.dumb(1), 1 + 4);
    }

    static void promise27AChainOfAllTerms() {
        LentTerms x = Boundary.ofCommon(8, 1);
        x.saying(1, 1);
        for (int term = 6; term >= 0; term--) {
            x.rule(term, term + 1, term + 1);
        }
        due("dumb(1)", x.dumb(1), 255);
        LentTerms y = Boundary.ofCommon(8, 1);
        y.saying(1, 1);
        for (int term = 0; term < 7; term++) {
            y.rule(term, term + 1, term + 1);
        }
        due("RULES the other way", y.dumb(1), 255);
    }

    // ---- promise 28: part

    static void promise28WhatIs0Or1() {
        Boundary.taken(Boundary.some(), "part", PART, n(0), 4);
        Boundary.taken(Boundary.some(), "part", PART, n(1), 13);
        Boundary.eachRefused(LentTerms::new, "part", PART, n(0), 0, n(-1, 2, MIN, MAX), BAD);
        Boundary.eachRefused(Boundary::some, "part", PART, n(0), 0, n(-1, 2, MIN, MAX), BAD);
        Boundary.eachRefused(Boundary::full, "part", PART, n(0), 0, n(-1, 2, MIN, MAX), BAD);
    }

    static void promise28NoughtByOneAtFirst() {
        Boundary.taken(new LentTerms(), "part", PART, n(0), 0);
        Boundary.taken(new LentTerms(), "part", PART, n(1), 1);
    }

    static void promise28BelowIsAbove0() {
        LentTerms x = Boundary.ofCommon(1, 1);
        due("with nothing told", x.part(1), 1);
        due("refused", x.odds(0, 0), BAD);
        due("as before", x.part(1), 1);
    }

    // ---- promise 29: image

    static void promise29Images0And1() {
        Boundary.eachTaken(LentTerms::new, "image", IMAGE, n(0), 0, n(0, 1), 1);
        Boundary.eachTaken(Boundary::full, "image", IMAGE, n(0), 0, n(0, 1), 1);
        Boundary.eachRefused(LentTerms::new, "image", IMAGE, n(0), 0, n(-1, 2, MIN, MAX), BAD);
        Boundary.eachRefused(Boundary::some, "image", IMAGE, n(0), 0, n(-1, 2, MIN, MAX), BAD);
        Boundary.eachRefused(Boundary::full, "image", IMAGE, n(0), 0, n(-1, 2, MIN, MAX), BAD);
    }

    static void promise29AnEmptyCounterIsKept() {
        LentTerms x = new LentTerms();
        x.image(1);
        Boundary.with(x, "term 0 1 1;");
        x.read();
        due("from(1)", x.from(1), 1);
        Boundary.Sheet none = new Boundary.Sheet();
        none.bytes = 11;
        due("digest()", x.digest(), none.digest());
    }

    static void promise29AFullCounterIsKept() {
        for (int i = 0; i < 2; i++) {
            LentTerms x = Boundary.full();
            long before = x.digest();
            due("image(" + i + ")", x.image(i), 1);
            due("it changes nothing", x.digest(), before);
            x.read();
            due("one TERM is told anew", x.count(0), 1);
            due("from(" + i + ")", x.from(i), 1);
            due("digest()", x.digest(), before);
            due("an eleventh LOAN", x.loan(0, 0, 0, 0), FULL);
            due("a ninth TERM", x.term(0, 1, 1), FULL);
        }
    }

    static void promise29TheNewerOneIsKept() {
        LentTerms x = Boundary.full();
        x.close();
        x.image(0);
        x.loan(0, 0, 0, 0);
        x.image(0);
        x.close();
        due("from(0)", x.from(0), 1);
        due("count(1)", x.count(1), 1);
    }

    static void promise29OneImageKnowsNothingOfTheOther() {
        LentTerms x = Boundary.ofCommon(1, 1);
        x.image(0);
        x.term(0, 1, 1);
        x.image(1);
        x.term(0, 1, 1);
        due("from(0)", x.from(0) * 10 + x.count(0), 11);
        due("from(1)", x.from(1) * 10 + x.count(0), 12);
        due("from(0)", x.from(0) * 10 + x.count(0), 11);
    }

    static void promise29WhatFollowsIsNotKept() {
        LentTerms x = Boundary.some();
        long before = x.digest();
        x.image(1);
        x.term(0, 1, 1);
        x.loan(0, 0, 0, 0);
        x.said(0, 0, 0);
        x.rule(0, 1, 1);
        x.want(0, 1, 0, 0);
        x.waits(4, 1, 2);
        x.worth(4, 1, 2);
        x.saying(1, 1);
        due("something is told", x.digest() == before ? 1 : 0, 0);
        x.from(1);
        due("digest()", x.digest(), before);
        due("all is as before", Boundary.alike(x, imaged(Boundary.some())), 1);
    }

    private static LentTerms imaged(LentTerms x) {
        x.image(1);
        return x;
    }

    // ---- promise 30: from

    static void promise30Images0And1() {
        Boundary.taken(Boundary.some(), "from", FROM, n(0), 1);
        Boundary.eachTaken(Boundary::full, "from", FROM, n(0), 0, n(0, 1), 1);
        Boundary.eachRefused(LentTerms::new, "from", FROM, n(0), 0, n(-1, 2, MIN, MAX), BAD);
        Boundary.eachRefused(Boundary::some, "from", FROM, n(0), 0, n(-1, 2, MIN, MAX), BAD);
        Boundary.eachRefused(Boundary::full, "from", FROM, n(0), 0, n(-1, 2, MIN, MAX), BAD);
    }

    static void promise30NoneWasKept() {
        Boundary.eachRefused(LentTerms::new, "from", FROM, n(0), 0, n(0, 1), NO);
        Boundary.refused(Boundary::some, "from", FROM, n(1), NO);
        LentTerms x = imaged(new LentTerms());
        due("from(0)", x.from(0), NO);
        due("from(1)", x.from(1), 1);
        due("from(0) still", x.from(0), NO);
    }

    static void promise30TheTextStays() {
        LentTerms x = Boundary.full();
        x.clear();
        x.image(0);
        x.type(';', 1);
        x.from(0);
        due("count(6)", x.count(6), 1);
        due("read()", x.read(), -10);
        x.image(0);
        due("clear()", x.clear(), 1);
        x.from(0);
        due("count(6)", x.count(6), 0);
    }

    static void promise30TheFractionStays() {
        LentTerms x = Boundary.some();
        x.image(1);
        x.odds(0, 1);
        x.from(1);
        due("part(0)", x.part(0), 3);
        due("part(1)", x.part(1), 5);
        LentTerms y = imaged(Boundary.ofCommon(1, 1));
        y.saying(1, 1);
        y.odds(0, 0);
        y.from(1);
        due("count(5)", y.count(5), 0);
        due("part(0)", y.part(0), 1);
    }

    static void promise30StatusStays() {
        LentTerms x = Boundary.ofCommon(8, 1);
        x.image(0);
        x.term(6, 1, 1);
        x.term(0, 1, 1);
        x.from(1);
        x.from(0);
        for (int what = 0; what < 3; what++) {
            due("status(" + what + ")", x.status(what), 1);
        }
    }

    static void promise30ImagesStay() {
        LentTerms x = Boundary.full();
        x.from(1);
        due("of no TERMS", x.count(0), 0);
        for (int i = 0; i < 3; i++) {
            due("from(0)", x.from(0), 1);
            due("of eight TERMS", x.count(0) * 10 + x.count(1), 80);
            x.loan(0, 0, 0, 0);
            due("from(1)", x.from(1), 1);
            due("of no TERMS", x.count(0) + x.count(1), 0);
            x.term(0, 1, 1);
        }
    }

    static void promise30WhatWasNotThereIsNotThereAgain() {
        LentTerms x = Boundary.full();
        x.from(1);
        due("may(0, 0)", x.may(0, 0), BAD);
        due("about(1)", x.about(1), BAD);
        due("plan(0)", x.plan(0), -10);
        due("dumb(1)", x.dumb(1), BAD);
        due("stuck(0)", x.stuck(0), 0);
        due("deal(NONE)", x.deal(NONE), 0);
        x.term(0, 1, 1);
        due("no WORTH", x.worth(4, 0, 1), 0);
    }

    // ---- promise 31: status

    static void promise31AnotherWhatCountsAsBad() {
        for (int what : n(-1, 3, 4, MIN, MAX)) {
            Boundary.changesNothing(LentTerms::new, "status", STATUS, n(what), NONE, Boundary.AS_BAD);
            Boundary.changesNothing(Boundary::full, "status", STATUS, n(what), NONE, Boundary.AS_BAD);
        }
    }

    static void promise31What0To2ChangesNothing() {
        for (int what = 0; what < 3; what++) {
            Boundary.changesNothing(LentTerms::new, "status", STATUS, n(what), 0, Boundary.AS_NOTHING);
            Boundary.changesNothing(Boundary::full, "status", STATUS, n(what), 0, Boundary.AS_NOTHING);
        }
    }

    static void promise31EachCallThatIsRefusedAsBadCountsOnce() {
        LentTerms x = Boundary.full();
        int[] answers = {x.term(6, 1, 1), x.may(8, 0), x.cost(0, 0), x.loan(5, 0, 0, 0), x.in(24), x.bill(5), x.said(5, 0, 0),
            x.type(0, 0), x.rule(0, 0, 0), x.want(0, 0, 0, 0), x.waits(0, 1, 1), x.stuck(2), x.worth(0, 0, 100), x.saying(0, 1),
            x.about(256), x.odds(0, 8), x.dumb(256), (int) x.part(2), x.image(2), x.from(2), x.count(7)};
        for (int answer : answers) {
            due("an answer", answer, BAD);
        }
        due("status(0)", x.status(0), answers.length);
        due("status(1)", x.status(1), 0);
        due("status(2)", x.status(2), 0);
    }

    static void promise31BadTenCountsAsBad() {
        LentTerms x = Boundary.full();
        due("roundAbout", x.roundAbout(8, 0, 0), -10);
        due("status(0)", x.status(0), 1);
        due("plan", x.plan(5), -10);
        due("status(0)", x.status(0), 2);
        due("deal", x.deal(5), -10);
        due("status(0)", x.status(0), 3);
        due("status(1)", x.status(1), 0);
        due("status(2)", x.status(2), 0);
    }

    static void promise31EachCallThatIsRefusedAsNoCountsOnce() {
        LentTerms x = Boundary.some();
        due("from", x.from(1), NO);
        due("status(1)", x.status(1), 1);
        due("odds", x.odds(15, 0), NO);
        due("status(1)", x.status(1), 2);
        due("status(0)", x.status(0), 0);
        due("status(2)", x.status(2), 0);
    }

    static void promise31EachCallThatIsRefusedAsFullCountsOnce() {
        LentTerms x = Boundary.full();
        int[] answers = {x.term(0, 1, 1), x.loan(0, 0, 0, 0), x.said(0, 0, 0), x.type(0, 1), x.rule(0, 1, 1), x.want(0, 1, 0, 0),
            x.saying(1, 1)};
        for (int answer : answers) {
            due("an answer", answer, FULL);
        }
        due("status(2)", x.status(2), answers.length);
        due("status(0)", x.status(0), 0);
        due("status(1)", x.status(1), 0);
    }

    static void promise31NoneAndNotSoManyAndFaultsAreNoRefusals() {
        LentTerms x = Boundary.ofCommon(8, 1);
        due("wrong()", x.wrong(), NONE);
        due("judge()", x.judge(), NONE);
        due("buy()", x.buy(), NONE);
        due("roundAbout", x.roundAbout(0, 0, NONE), NONE);
        due("roundAbout", x.roundAbout(0, 1, 1), -5);
        x.type(';', 1);
        due("read()", x.read(), -10);
        x.clear();
        Boundary.with(x, "term 6 1 1;");
        due("read()", x.read(), -1000);
        x.clear();
        Boundary.with(x, "term0 1 1;".repeat(9));
        due("read()", x.read(), -1008);
        for (int what = 0; what < 3; what++) {
            due("status(" + what + ")", x.status(what), 0);
        }
    }

    static void promise31AsManyAsCallsCanBe() {
        LentTerms x = new LentTerms();
        for (int i = 0; i < 170; i++) {
            x.type(0, 9);
            x.from(0);
            x.status(3);
        }
        due("status(0)", x.status(0), 340);
        due("status(1)", x.status(1), 170);
    }

    // ---- promise 32: count

    static void promise32WhatIs0To6() {
        int[] some = {4, 3, 2, 2, 3, 3, 23}, full = {8, 10, 10, 8, 5, 8, 250};
        for (int what = 0; what < 7; what++) {
            Boundary.taken(new LentTerms(), "count", COUNT, n(what), 0);
            Boundary.taken(Boundary.some(), "count", COUNT, n(what), some[what]);
            Boundary.taken(Boundary.full(), "count", COUNT, n(what), full[what]);
        }
        Boundary.eachRefused(LentTerms::new, "count", COUNT, n(0), 0, n(-1, 7, MIN, MAX), BAD);
        Boundary.eachRefused(Boundary::some, "count", COUNT, n(0), 0, n(-1, 7, MIN, MAX), BAD);
        Boundary.eachRefused(Boundary::full, "count", COUNT, n(0), 0, n(-1, 7, MIN, MAX), BAD);
    }

    static void promise32ARefusedCallIsNotCounted() {
        LentTerms x = Boundary.ofCommon(2, 1);
        x.loan(0, 0, 1, 0);
        x.said(0, 0, 24);
        x.rule(0, 0, 0);
        x.want(0, 0, 0, 0);
        x.saying(0, 1);
        x.type(0, 9);
        for (int what = 1; what < 7; what++) {
            due("count(" + what + ")", x.count(what), 0);
        }
    }

    // ---- promise 33: digest

    static void promise33OfANewObject() {
        long h = 719;
        for (int i = 0; i < 7 + 5 * 2 + 1; i++) {
            h *= 31;
        }
        due("digest()", new LentTerms().digest(), 31 * h + 1);
    }

    static void promise33ItChangesNothing() {
        Boundary.changesNothing(LentTerms::new, "digest", DIGEST, n(), new LentTerms().digest(), Boundary.AS_NOTHING);
        Boundary.changesNothing(Boundary::full, "digest", DIGEST, n(), Boundary.full().digest(), Boundary.AS_NOTHING);
    }

    static void promise33OfAFullObject() {
        Boundary.Sheet s = new Boundary.Sheet();
        s.terms = new int[8][];
        s.rules = new int[8][];
        s.sayings = new int[8][];
        for (int i = 0; i < 8; i++) {
            s.terms[i] = n(i % 6, 1 + i % 3, 9 - i);
            s.rules[i] = n(i, (i + 1) % 8, (i + 3) % 8);
            s.sayings[i] = n(1 << i | 1, 1 + i);
        }
        s.loans = new int[10][];
        s.said = new int[10][];
        for (int i = 0; i < 10; i++) {
            s.loans[i] = n(i % 5, i % 8, i, i + 2);
            s.said[i] = n(i % 5, i % 8, i + 1);
        }
        s.wants = new int[5][];
        for (int p = 0; p < 5; p++) {
            s.wants[p] = n(p, 1 << p | 128, 10, 12);
            s.has[p] = 1 << p;
            s.waitsFor[p] = 1 << (p + 1) % 5;
            for (int t = 0; t < 8; t++) {
                s.worth[p][t] = 10 * p + t;
            }
        }
        s.bytes = 250;
        s.above = 2;
        s.below = 9;
        due("digest()", Boundary.full().digest(), s.digest());
    }

    static void promise33WorthOnlyOfTermsThatAreThere() {
        for (int terms = 0; terms <= 8; terms++) {
            LentTerms x = Boundary.ofCommon(terms, 1);
            Boundary.Sheet s = Boundary.Sheet.ofCommon(terms, 1);
            for (int p = 0; p < 5; p++) {
                for (int t = 0; t < terms; t++) {
                    x.worth(p, t, 99);
                    s.worth[p][t] = 99;
                }
            }
            due("of " + terms + " TERMS", x.digest(), s.digest());
        }
    }

    static void promise33StatusAndImagesAreNoPartOfIt() {
        LentTerms x = Boundary.some();
        long before = x.digest();
        x.status(9);
        x.image(0);
        x.image(1);
        due("digest()", x.digest(), before);
    }

    static void promise33TheBytesOfTheTextAreNoPartOfIt() {
        due("of other bytes", Boundary.with("abc").digest(), Boundary.with("xyz").digest());
        due("of fewer bytes", Boundary.with("abc").digest() == Boundary.with("ab").digest() ? 1 : 0, 0);
    }
}
