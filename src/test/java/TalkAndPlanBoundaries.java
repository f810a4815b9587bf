import java.util.function.Supplier;

/** Promises 15 to 23: for each sentence of the document that names a boundary a test of its own. */
public final class TalkAndPlanBoundaries {
    private static final int MIN = Boundary.MIN, MAX = Boundary.MAX;
    private static final int NONE = Boundary.NONE, BAD = Boundary.BAD, FULL = Boundary.FULL;
    private static final int BAD_TEN = Boundary.BAD_TEN, NOT_SO_MANY = Boundary.NOT_SO_MANY;

    private static final Boundary.Call RULE = (x, a) -> x.rule(a[0], a[1], a[2]);
    private static final Boundary.Call ROUND_ABOUT = (x, a) -> x.roundAbout(a[0], a[1], a[2]);
    private static final Boundary.Call WANT = (x, a) -> x.want(a[0], a[1], a[2], a[3]);
    private static final Boundary.Call PLAN = (x, a) -> x.plan(a[0]);
    private static final Boundary.Call WAITS = (x, a) -> x.waits(a[0], a[1], a[2]);
    private static final Boundary.Call STUCK = (x, a) -> x.stuck(a[0]);
    private static final Boundary.Call WORTH = (x, a) -> x.worth(a[0], a[1], a[2]);
    private static final Boundary.Call DEAL = (x, a) -> x.deal(a[0]);

    public static void main(String[] args) throws ReflectiveOperationException {
        Boundary.run(TalkAndPlanBoundaries.class, 15, 23);
    }

    private static int[] n(int... numbers) {
        return numbers;
    }

    private static void due(String call, long got, long due) {
        Boundary.due(call, got, due);
    }

    private static Supplier<LentTerms> common(int terms) {
        return () -> Boundary.ofCommon(terms, 1);
    }

    // ---- promise 15: rule

    private static void ruleNumber(int place, int[] taken, int[] refused) {
        Boundary.eachTaken(common(5), "rule", RULE, n(1, 2, 3), place, taken, 0);
        Boundary.eachRefused(common(5), "rule", RULE, n(1, 2, 3), place, refused, BAD);
    }

    static void promise15TheTermsAreThere() {
        ruleNumber(0, n(0, 4), n(-1, 5, 7, 8, MIN, MAX));
        ruleNumber(1, n(0, 4), n(-1, 5, 7, 8, MIN, MAX));
        ruleNumber(2, n(0, 4), n(-1, 5, 7, 8, MIN, MAX));
        Boundary.taken(Boundary.ofCommon(8, 1), "rule", RULE, n(7, 0, 0), 0);
        Boundary.taken(Boundary.ofCommon(8, 1), "rule", RULE, n(0, 7, 7), 0);
        for (int place = 0; place < 3; place++) {
            Boundary.eachRefused(common(8), "rule", RULE, n(1, 2, 3), place, n(8, -1, MIN, MAX), BAD);
            Boundary.eachRefused(LentTerms::new, "rule", RULE, n(0, 1, 2), place, n(0, 1, -1, MIN, MAX), BAD);
        }
    }

    static void promise15OfOneTermNoneCanBe() {
        Boundary.refused(common(1), "rule", RULE, n(0, 0, 0), BAD);
    }

    static void promise15TheTermItselfIsBad() {
        ruleNumber(1, n(2, 3), n(1));
        ruleNumber(2, n(2, 3), n(1));
        ruleNumber(0, n(0, 1, 4), n(2, 3));
        Boundary.refused(common(5), "rule", RULE, n(2, 2, 2), BAD);
        Boundary.refused(common(8), "rule", RULE, n(7, 7, 0), BAD);
        Boundary.refused(common(8), "rule", RULE, n(7, 0, 7), BAD);
    }

    static void promise15TheSameTermTwiceIsFine() {
        Boundary.taken(Boundary.ofCommon(2, 1), "rule", RULE, n(0, 1, 1), 0);
        Boundary.taken(Boundary.ofCommon(2, 1), "rule", RULE, n(1, 0, 0), 0);
    }

    static void promise15TheLeastAndTheLargestAreKept() {
        LentTerms x = Boundary.ofCommon(8, 1);
        x.rule(0, 7, 6);
        x.rule(7, 0, 0);
        Boundary.Sheet due = Boundary.Sheet.ofCommon(8, 1);
        due.rules = Boundary.rows(n(0, 7, 6), n(7, 0, 0));
        due("digest()", x.digest(), due.digest());
    }

    static void promise15EightComeAndANinthIsFull() {
        LentTerms x = Boundary.ofCommon(2, 1);
        for (int rule = 0; rule < 8; rule++) {
            due("RULE " + rule, x.rule(0, 1, 1), rule);
        }
        due("a ninth", x.rule(1, 0, 0), FULL);
        due("count(3)", x.count(3), 8);
    }

    static void promise15FullChangesNothing() {
        Boundary.refused(Boundary::full, "rule", RULE, n(0, 1, 1), FULL);
        Boundary.refused(Boundary::full, "rule", RULE, n(7, 0, 6), FULL);
    }

    static void promise15BadIsAheadOfFull() {
        for (int place = 0; place < 3; place++) {
            Boundary.eachRefused(Boundary::full, "rule", RULE, n(1, 2, 3), place, n(-1, 8, MIN, MAX), BAD);
        }
        Boundary.refused(Boundary::full, "rule", RULE, n(1, 1, 2), BAD);
        Boundary.refused(Boundary::full, "rule", RULE, n(1, 2, 1), BAD);
    }

    // ---- promise 16: roundAbout

    private static LentTerms doubling() {
        LentTerms x = Boundary.ofCommon(8, 1);
        for (int term = 0; term < 7; term++) {
            x.rule(term, term + 1, term + 1);
        }
        return x;
    }

    static void promise16TheTermIsThere() {
        Boundary.eachTaken(common(5), "roundAbout", ROUND_ABOUT, n(0, 31, -1), 0, n(0, 4), 1);
        Boundary.eachRefused(common(5), "roundAbout", ROUND_ABOUT, n(0, 31, -1), 0, n(-1, 5, 7, 8, MIN, MAX), BAD_TEN);
        Boundary.eachRefused(LentTerms::new, "roundAbout", ROUND_ABOUT, n(0, 0, -1), 0, n(0, -1, 7, 8, MIN, MAX), BAD_TEN);
        Boundary.taken(Boundary.full(), "roundAbout", ROUND_ABOUT, n(7, 128, 0), 7);
        Boundary.eachRefused(Boundary::full, "roundAbout", ROUND_ABOUT, n(0, 255, 0), 0, n(-1, 8, MIN, MAX), BAD_TEN);
    }

    static void promise16TheSetIsOfTermsThatAreThere() {
        Boundary.eachTaken(common(1), "roundAbout", ROUND_ABOUT, n(0, 0, -1), 1, n(0), NONE);
        Boundary.eachTaken(common(1), "roundAbout", ROUND_ABOUT, n(0, 0, -1), 1, n(1), 1);
        Boundary.eachRefused(common(1), "roundAbout", ROUND_ABOUT, n(0, 0, -1), 1, n(2, 3, -1, MIN, MAX, MIN + 1), BAD_TEN);
        Boundary.eachTaken(common(5), "roundAbout", ROUND_ABOUT, n(4, 0, -1), 1, n(16, 31), 1);
        Boundary.eachRefused(common(5), "roundAbout", ROUND_ABOUT, n(4, 0, -1), 1, n(32, 33, 64, -1, MIN, MAX), BAD_TEN);
        Boundary.eachTaken(common(8), "roundAbout", ROUND_ABOUT, n(7, 0, -1), 1, n(128, 255), 1);
        Boundary.eachRefused(common(8), "roundAbout", ROUND_ABOUT, n(7, 0, -1), 1, n(256, 511, -1, MIN, MAX), BAD_TEN);
    }

    static void promise16IIsNoneOrMore() {
        Boundary.eachRefused(common(5), "roundAbout", ROUND_ABOUT, n(0, 1, 0), 2, n(-2, -3, MIN), BAD_TEN);
        Boundary.eachRefused(common(5), "roundAbout", ROUND_ABOUT, n(0, 0, 0), 2, n(-2, MIN), BAD_TEN);
        Boundary.taken(Boundary.ofCommon(5, 1), "roundAbout", ROUND_ABOUT, n(0, 1, -1), 1);
        Boundary.taken(Boundary.ofCommon(5, 1), "roundAbout", ROUND_ABOUT, n(4, 16, 0), 4);
    }

    static void promise16NotSoManyIsNoRefusal() {
        for (int i : n(1, 2, 7, 8, MAX)) {
            Boundary.changesNothing(common(5), "roundAbout", ROUND_ABOUT, n(0, 1, i), NOT_SO_MANY, Boundary.AS_NOTHING);
        }
    }

    static void promise16WhatCanNotBeSaidIsNoRefusal() {
        for (int i : n(-1, 0, 1, MAX)) {
            Boundary.changesNothing(common(5), "roundAbout", ROUND_ABOUT, n(0, 0, i), NONE, Boundary.AS_NOTHING);
            Boundary.changesNothing(common(5), "roundAbout", ROUND_ABOUT, n(0, 30, i), NONE, Boundary.AS_NOTHING);
        }
    }

    static void promise16TheMostTermsAre128() {
        LentTerms x = doubling();
        due("how many", x.roundAbout(0, 128, NONE), 128);
        due("the first", x.roundAbout(0, 128, 0), 7);
        due("the last", x.roundAbout(0, 128, 127), 7);
        due("one more", x.roundAbout(0, 128, 128), NOT_SO_MANY);
        for (int term = 0; term < 8; term++) {
            due("TERM " + term, x.roundAbout(term, 128, NONE), 1 << 7 - term);
        }
    }

    static void promise16RulesInAnyOrderReachAsFar() {
        LentTerms x = Boundary.ofCommon(8, 1);
        for (int term = 6; term >= 0; term--) {
            x.rule(term, term + 1, term + 1);
        }
        due("how many", x.roundAbout(0, 128, NONE), 128);
    }

    static void promise16ItselfIsAheadOfRules() {
        LentTerms x = Boundary.ofCommon(3, 1);
        x.rule(0, 1, 2);
        due("how many", x.roundAbout(0, 7, NONE), 1);
        due("which", x.roundAbout(0, 7, 0), 0);
        due("one more", x.roundAbout(0, 7, 1), NOT_SO_MANY);
    }

    static void promise16BothOfARuleMustBeSaid() {
        LentTerms x = Boundary.ofCommon(3, 1);
        x.rule(0, 1, 2);
        due("by u alone", x.roundAbout(0, 2, NONE), NONE);
        due("by v alone", x.roundAbout(0, 4, NONE), NONE);
        due("by both", x.roundAbout(0, 6, NONE), 2);
    }

    private static void dueRow(LentTerms x, int term, int set, int... row) {
        due("how many of " + term + " by " + set, x.roundAbout(term, set, NONE), row.length);
        for (int i = 0; i < row.length; i++) {
            due("roundAbout(" + term + ", " + set + ", " + i + ")", x.roundAbout(term, set, i), row[i]);
        }
        due("one more", x.roundAbout(term, set, row.length), NOT_SO_MANY);
    }

    static void promise16WhatIsSaidForUThenForV() {
        LentTerms x = Boundary.ofCommon(8, 1);
        x.rule(0, 2, 1);
        x.rule(1, 3, 4);
        x.rule(2, 6, 5);
        dueRow(x, 0, 6, 2, 1);
        dueRow(x, 0, 4 + 8 + 16, 2, 3, 4);
        dueRow(x, 0, 2 + 32 + 64, 6, 5, 1);
        dueRow(x, 0, 8 + 16 + 32 + 64, 6, 5, 3, 4);
    }

    static void promise16TheFewestAheadOfTheFirstRule() {
        LentTerms x = Boundary.ofCommon(8, 1);
        x.rule(0, 1, 2);
        x.rule(1, 3, 3);
        x.rule(0, 4, 5);
        dueRow(x, 0, 4 + 8 + 16 + 32, 4, 5);
        dueRow(x, 0, 4 + 8, 3, 3, 2);
    }

    static void promise16TheFirstRuleOfLikeOnes() {
        LentTerms x = Boundary.ofCommon(8, 1);
        x.rule(0, 7, 6);
        x.rule(0, 1, 2);
        dueRow(x, 0, 254, 7, 6);
        dueRow(x, 0, 6, 1, 2);
    }

    static void promise16TheLastOfEightRules() {
        LentTerms x = Boundary.ofCommon(8, 1);
        for (int rule = 0; rule < 7; rule++) {
            x.rule(7, 6, rule % 6);
        }
        x.rule(0, 7, 5);
        dueRow(x, 0, 128 + 32, 7, 5);
        dueRow(x, 0, 64 + 32, 6, 5, 5);
    }

    static void promise16ARingOfRulesSaysNothing() {
        LentTerms x = Boundary.ofCommon(4, 1);
        x.rule(0, 1, 1);
        x.rule(1, 2, 2);
        x.rule(2, 0, 0);
        due("by nothing", x.roundAbout(0, 0, NONE), NONE);
        due("by another", x.roundAbout(0, 8, NONE), NONE);
        dueRow(x, 0, 4, 2, 2, 2, 2);
        dueRow(x, 0, 2, 1, 1);
        x.rule(0, 3, 1);
        due("through the ring", x.roundAbout(0, 8, NONE), NONE);
    }

    // ---- promise 17: want

    private static void wantNumber(int place, int[] taken, int[] refused) {
        Boundary.eachTaken(common(5), "want", WANT, n(2, 5, 8, 10), place, taken, 0);
        Boundary.eachRefused(common(5), "want", WANT, n(2, 5, 8, 10), place, refused, BAD);
    }

    static void promise17PeopleAre0To4() {
        wantNumber(0, n(0, 4), n(-1, 5, MIN, MAX));
    }

    static void promise17TermsAre1To3() {
        wantNumber(1, n(1, 16, 3, 24, 7, 28), n(0, 15, 30, 31));
        Boundary.eachTaken(common(8), "want", WANT, n(2, 5, 8, 10), 1, n(1, 128, 224, 7, 131), 0);
        Boundary.eachRefused(common(8), "want", WANT, n(2, 5, 8, 10), 1, n(0, 15, 240, 255, 127), BAD);
    }

    static void promise17TheTermsAreThere() {
        wantNumber(1, n(16, 20), n(32, 33, 64, 128, -1, MIN, MAX, 1 << 30, MIN + 1));
        Boundary.eachRefused(LentTerms::new, "want", WANT, n(0, 0, 0, 0), 1, n(0, 1, -1, MIN, MAX), BAD);
        Boundary.taken(Boundary.ofCommon(8, 1), "want", WANT, n(0, 128, 0, 0), 0);
        Boundary.eachRefused(common(8), "want", WANT, n(0, 1, 0, 0), 1, n(256, 257, MIN), BAD);
    }

    static void promise17HoursAre0To23() {
        wantNumber(2, n(5, 10), n(-1, 11, 24, MIN, MAX));
        Boundary.taken(Boundary.ofCommon(5, 1), "want", WANT, n(0, 1, 0, 0), 0);
        Boundary.taken(Boundary.ofCommon(5, 1), "want", WANT, n(0, 1, 23, 23), 0);
        Boundary.refused(common(5), "want", WANT, n(0, 1, -1, 0), BAD);
        Boundary.refused(common(5), "want", WANT, n(0, 1, -1, -1), BAD);
        Boundary.refused(common(5), "want", WANT, n(0, 1, 23, 24), BAD);
        Boundary.refused(common(5), "want", WANT, n(0, 1, 24, 24), BAD);
    }

    static void promise17TheLastHourIsNotAheadOfTheFirst() {
        wantNumber(3, n(8, 9), n(7, 0, -1, MIN));
        Boundary.refused(common(5), "want", WANT, n(0, 1, 23, 0), BAD);
    }

    static void promise17TheLastHourIsNoMoreThan5Later() {
        wantNumber(3, n(12, 13), n(14, 23, MAX));
        wantNumber(2, n(5, 6), n(4, 0));
        Boundary.taken(Boundary.ofCommon(5, 1), "want", WANT, n(0, 1, 0, 5), 0);
        Boundary.taken(Boundary.ofCommon(5, 1), "want", WANT, n(0, 1, 18, 23), 0);
        Boundary.refused(common(5), "want", WANT, n(0, 1, 0, 6), BAD);
        Boundary.refused(common(5), "want", WANT, n(0, 1, 17, 23), BAD);
        Boundary.refused(common(5), "want", WANT, n(0, 1, 19, 24), BAD);
        Boundary.refused(common(5), "want", WANT, n(0, 1, MIN, MAX), BAD);
        Boundary.refused(common(5), "want", WANT, n(0, 1, MAX, MIN), BAD);
    }

    static void promise17TheLeastAndTheLargestAreKept() {
        LentTerms x = Boundary.ofCommon(8, 1);
        x.want(0, 1, 0, 0);
        x.want(4, 224, 18, 23);
        Boundary.Sheet due = Boundary.Sheet.ofCommon(8, 1);
        due.wants = Boundary.rows(n(0, 1, 0, 0), n(4, 224, 18, 23));
        due("digest()", x.digest(), due.digest());
    }

    static void promise17FiveComeAndASixthIsFull() {
        LentTerms x = Boundary.ofCommon(1, 1);
        for (int want = 0; want < 5; want++) {
            due("WANT " + want, x.want(0, 1, 3, 3), want);
        }
        due("a sixth", x.want(0, 1, 3, 3), FULL);
        due("count(4)", x.count(4), 5);
    }

    static void promise17FullChangesNothing() {
        Boundary.refused(Boundary::full, "want", WANT, n(0, 1, 0, 0), FULL);
        Boundary.refused(Boundary::full, "want", WANT, n(4, 224, 18, 23), FULL);
    }

    static void promise17BadIsAheadOfFull() {
        int[] fine = {2, 5, 8, 10};
        Boundary.eachRefused(Boundary::full, "want", WANT, fine, 0, n(-1, 5, MIN, MAX), BAD);
        Boundary.eachRefused(Boundary::full, "want", WANT, fine, 1, n(0, 15, 256, -1, MIN, MAX), BAD);
        Boundary.eachRefused(Boundary::full, "want", WANT, fine, 2, n(-1, 4, 11, 24, MIN, MAX), BAD);
        Boundary.eachRefused(Boundary::full, "want", WANT, fine, 3, n(-1, 7, 14, 24, MIN, MAX), BAD);
    }

    // ---- promise 18: plan

    private static void duePlan(LentTerms x, int met, int... hours) {
        due("plan(NONE)", x.plan(NONE), met);
        for (int want = 0; want < hours.length; want++) {
            due("plan(" + want + ")", x.plan(want), hours[want]);
        }
    }

    static void promise18NoWantsNoneMet() {
        Boundary.taken(new LentTerms(), "plan", PLAN, n(NONE), 0);
        Boundary.taken(Boundary.ofCommon(8, 1), "plan", PLAN, n(NONE), 0);
        Boundary.eachRefused(common(8), "plan", PLAN, n(0), 0, n(0, -2, 4, 5, MIN, MAX), BAD_TEN);
    }

    static void promise18TheWantIsThere() {
        Boundary.eachTaken(Boundary::some, "plan", PLAN, n(0), 0, n(1), 5);
        Boundary.eachTaken(Boundary::some, "plan", PLAN, n(0), 0, n(2), 24);
        Boundary.eachRefused(Boundary::some, "plan", PLAN, n(0), 0, n(-2, 3, 4, 5, MIN, MAX), BAD_TEN);
        Boundary.eachTaken(Boundary::full, "plan", PLAN, n(0), 0, n(0, 1), 10);
        Boundary.eachTaken(Boundary::full, "plan", PLAN, n(0), 0, n(4), 12);
        Boundary.eachRefused(Boundary::full, "plan", PLAN, n(0), 0, n(-2, 5, MIN, MAX), BAD_TEN);
    }

    static void promise18TheFirstAndTheLastHourOfADay() {
        LentTerms x = Boundary.ofCommon(1, 1);
        x.want(0, 1, 0, 0);
        x.want(0, 1, 23, 23);
        duePlan(x, 2, 0, 23);
    }

    static void promise18NoneIsHour24() {
        LentTerms x = Boundary.ofCommon(1, 1);
        x.want(0, 1, 23, 23);
        x.want(1, 1, 23, 23);
        duePlan(x, 1, 23, 24);
    }

    static void promise18AllHoursFromAToB() {
        LentTerms x = Boundary.ofCommon(1, 1);
        for (int want = 0; want < 5; want++) {
            x.want(want, 1, 18, 23);
        }
        duePlan(x, 5, 18, 19, 20, 21, 22);
        LentTerms y = Boundary.ofCommon(1, 1);
        for (int want = 0; want < 4; want++) {
            y.want(want, 1, 4, 6);
        }
        duePlan(y, 3, 4, 5, 6, 24);
    }

    static void promise18AsManyAsMayInOneHour() {
        for (int kind = 0; kind < 6; kind++) {
            for (int copies = 1; copies <= 3; copies++) {
                LentTerms x = Boundary.ofTerms(1, kind, copies, 1);
                int may = kind == 2 || kind >= 4 ? 1 : copies;
                for (int person = 0; person < 5; person++) {
                    x.want(person, 1, 9, 9);
                    due("KIND " + kind + ", " + copies + " COPIES, " + (person + 1) + " WANTS", x.plan(NONE),
                        Math.min(may, person + 1));
                    due("the last one's hour", x.plan(person), person < may ? 9 : 24);
                }
            }
        }
    }

    static void promise18OneOfAPersonsWantsInAnHourAlone() {
        LentTerms x = Boundary.ofCommon(5, 3);
        for (int want = 0; want < 5; want++) {
            x.want(2, 1 << want, 9, 10);
        }
        duePlan(x, 2, 9, 10, 24, 24, 24);
    }

    static void promise18LoansDoNotCount() {
        LentTerms x = Boundary.ofCommon(1, 1);
        for (int loan = 0; loan < 10; loan++) {
            x.loan(loan % 5, 0, 0, 23);
        }
        x.want(0, 1, 9, 9);
        duePlan(x, 1, 9);
    }

    static void promise18AllTermsOfAWantAtOnce() {
        LentTerms x = Boundary.ofCommon(3, 1);
        x.want(0, 7, 9, 9);
        x.want(1, 4, 9, 9);
        duePlan(x, 1, 9, 24);
        x.want(2, 1, 9, 9);
        duePlan(x, 2, 24, 9, 9);
    }

    static void promise18TheFirstOfLikeOnes() {
        LentTerms x = Boundary.ofCommon(1, 1);
        x.want(0, 1, 8, 9);
        x.want(1, 1, 8, 8);
        x.want(2, 1, 9, 9);
        duePlan(x, 2, 8, 24, 9);
        LentTerms y = Boundary.ofCommon(1, 1);
        y.want(0, 1, 8, 9);
        y.want(1, 1, 8, 8);
        duePlan(y, 2, 9, 8);
    }

    static void promise18MostWantsAheadOfTheFirstHours() {
        LentTerms x = Boundary.ofCommon(3, 1);
        x.want(0, 7, 9, 9);
        x.want(1, 1, 9, 9);
        x.want(2, 2, 9, 9);
        x.want(3, 4, 9, 9);
        duePlan(x, 3, 24, 9, 9, 9);
    }

    // ---- promise 19: buy

    static void promise19NoneOfAnEmptyCounter() {
        due("of a new one", new LentTerms().buy(), NONE);
        due("of TERMS alone", Boundary.ofCommon(8, 1).buy(), NONE);
        LentTerms x = new LentTerms();
        x.buy();
        due("status(0)", x.status(0), 0);
    }

    static void promise19NoneIfAllAreMet() {
        LentTerms x = Boundary.ofCommon(1, 1);
        x.want(0, 1, 8, 9);
        x.want(1, 1, 8, 9);
        due("buy()", x.buy(), NONE);
    }

    private static LentTerms crowded(int terms, int kind, int copies) {
        LentTerms x = Boundary.ofTerms(terms, kind, copies, 1);
        for (int person = 0; person < 5; person++) {
            x.want(person, 1 << terms - 1, 9, 9);
        }
        return x;
    }

    static void promise19ThreeCopiesAreTheMost() {
        due("one", crowded(1, 0, 1).buy(), 0);
        due("two", crowded(1, 0, 2).buy(), 0);
        due("three", crowded(1, 0, 3).buy(), NONE);
    }

    static void promise19NotOfSingleKeptAndGrandOnes() {
        int[] due = {0, 0, NONE, 0, NONE, NONE};
        for (int kind = 0; kind < 6; kind++) {
            for (int copies = 1; copies <= 2; copies++) {
                due("KIND " + kind + " of " + copies, crowded(1, kind, copies).buy(), due[kind]);
            }
            due("KIND " + kind + " of 3", crowded(1, kind, 3).buy(), NONE);
        }
    }

    static void promise19TheFirstAndTheLastTerm() {
        due("the only TERM", crowded(1, 0, 1).buy(), 0);
        due("TERM 7", crowded(8, 0, 1).buy(), 7);
    }

    static void promise19TheLeastOfLikeOnes() {
        LentTerms x = Boundary.ofCommon(8, 1);
        x.want(0, 128, 9, 9);
        x.want(1, 128, 9, 9);
        x.want(2, 64, 9, 9);
        x.want(3, 64, 9, 9);
        due("buy()", x.buy(), 6);
    }

    static void promise19MostAheadOfTheLeast() {
        LentTerms x = Boundary.ofCommon(3, 1);
        x.want(0, 6, 9, 9);
        x.want(1, 2, 9, 9);
        x.want(2, 4, 9, 9);
        due("one of two is not enough", x.buy(), NONE);
        LentTerms y = Boundary.ofCommon(3, 1);
        y.want(0, 1, 5, 5);
        y.want(1, 1, 5, 5);
        y.want(2, 5, 5, 5);
        y.want(3, 4, 5, 5);
        due("TERM 0", y.buy(), 0);
    }

    static void promise19OneCopyMoreNotTwo() {
        LentTerms x = Boundary.ofCommon(2, 1);
        x.want(0, 1, 5, 5);
        x.want(1, 1, 5, 5);
        for (int person = 2; person < 5; person++) {
            x.want(person, 2, 7, 7);
        }
        due("two of TERM 1 would let more be met", x.buy(), 0);
    }

    static void promise19NoneIfOnePersonStandsInHisOwnWay() {
        LentTerms x = Boundary.ofCommon(1, 1);
        x.want(3, 1, 9, 9);
        x.want(3, 1, 9, 9);
        due("buy()", x.buy(), NONE);
    }

    static void promise19NothingIsBought() {
        LentTerms x = crowded(1, 0, 1), twin = crowded(1, 0, 1);
        due("buy()", x.buy(), 0);
        due("may(0, 0)", x.may(0, 0), 1);
        due("plan(NONE)", x.plan(NONE), 1);
        due("all is as before", Boundary.alike(x, twin), 1);
    }

    // ---- promise 20: waits

    private static void waitsNumber(int place, int[] taken, int[] refused) {
        Boundary.eachTaken(common(5), "waits", WAITS, n(2, 9, 18), place, taken, 1);
        Boundary.eachTaken(Boundary::some, "waits", WAITS, n(2, 0, 0), place, n(0), 1);
        Boundary.eachRefused(common(5), "waits", WAITS, n(2, 9, 18), place, refused, BAD);
    }

    static void promise20PeopleAre0To4() {
        waitsNumber(0, n(0, 4), n(-1, 5, MIN, MAX));
    }

    static void promise20BitsAreOfTermsThatAreThere() {
        waitsNumber(1, n(0, 1, 4, 8, 13), n(32, 41, 64, 256, -1, MIN, MAX, 1 << 30));
        waitsNumber(2, n(0, 2, 4, 16, 22), n(32, 50, 64, 256, -1, MIN, MAX, 1 << 30));
        Boundary.eachTaken(LentTerms::new, "waits", WAITS, n(0, 0, 0), 0, n(0, 4), 1);
        Boundary.eachRefused(LentTerms::new, "waits", WAITS, n(0, 0, 0), 1, n(1, -1, MIN, MAX), BAD);
        Boundary.eachRefused(LentTerms::new, "waits", WAITS, n(0, 0, 0), 2, n(1, -1, MIN, MAX), BAD);
        Boundary.taken(Boundary.ofCommon(8, 1), "waits", WAITS, n(0, 255, 0), 1);
        Boundary.taken(Boundary.ofCommon(8, 1), "waits", WAITS, n(0, 0, 255), 1);
        Boundary.eachRefused(common(8), "waits", WAITS, n(0, 0, 0), 1, n(256, 511, MIN), BAD);
        Boundary.eachRefused(common(8), "waits", WAITS, n(0, 0, 0), 2, n(256, 511, MIN), BAD);
    }

    static void promise20ATermInBothIsBad() {
        waitsNumber(1, n(1, 12), n(2, 16, 18, 31, 11));
        waitsNumber(2, n(2, 22), n(1, 8, 9, 31, 19));
        Boundary.refused(common(1), "waits", WAITS, n(0, 1, 1), BAD);
        Boundary.refused(common(8), "waits", WAITS, n(0, 128, 128), BAD);
        Boundary.refused(Boundary::full, "waits", WAITS, n(0, 255, 1), BAD);
    }

    static void promise20TheLeastAndTheLargestAreKept() {
        LentTerms x = Boundary.ofCommon(8, 1);
        x.waits(0, 255, 0);
        x.waits(4, 0, 255);
        x.waits(2, 1, 128);
        x.waits(3, 1, 128);
        x.waits(3, 0, 0);
        Boundary.Sheet due = Boundary.Sheet.ofCommon(8, 1);
        due.has = n(255, 0, 1, 0, 0);
        due.waitsFor = n(0, 0, 128, 0, 255);
        due("digest()", x.digest(), due.digest());
    }

    static void promise20ItIsToldAnewAsOftenAsOneLikes() {
        LentTerms x = Boundary.full();
        for (int i = 0; i < 20; i++) {
            due("waits", x.waits(4, i, 128), 1);
        }
        due("status(2)", x.status(2), 0);
    }

    // ---- promise 21: stuck

    static void promise21WhatIs0Or1() {
        Boundary.taken(new LentTerms(), "stuck", STUCK, n(0), 0);
        Boundary.taken(new LentTerms(), "stuck", STUCK, n(1), 0);
        Boundary.eachRefused(LentTerms::new, "stuck", STUCK, n(0), 0, n(-1, 2, MIN, MAX), BAD);
        Boundary.eachRefused(Boundary::some, "stuck", STUCK, n(0), 0, n(-1, 2, MIN, MAX), BAD);
        Boundary.eachRefused(Boundary::full, "stuck", STUCK, n(0), 0, n(-1, 2, MIN, MAX), BAD);
    }

    private static void dueStuck(LentTerms x, int stuck, int broken) {
        due("stuck(0)", x.stuck(0), stuck);
        due("stuck(1)", x.stuck(1), broken);
    }

    static void promise21WhoWaitsForNothingIsNotStuck() {
        LentTerms x = Boundary.ofCommon(8, 1);
        for (int person = 0; person < 5; person++) {
            x.waits(person, 255, 0);
        }
        dueStuck(x, 0, 0);
    }

    static void promise21WhoWaitsForWhatIsFreeIsNotStuck() {
        LentTerms x = Boundary.ofCommon(8, 1);
        for (int person = 0; person < 5; person++) {
            x.waits(person, 0, 255);
        }
        dueStuck(x, 0, 0);
    }

    static void promise21ATermIsFreeIfFewerHaveItThanMay() {
        for (int copies = 1; copies <= 3; copies++) {
            for (int have = 0; have <= 4; have++) {
                LentTerms x = stuckHolders(copies, have);
                due(have + " have it, may " + copies, x.stuck(0), have < copies ? 15 : 31);
            }
        }
    }

    /** So many have TERM 0 and never give it back; PERSON 4 waits for it. */
    private static LentTerms stuckHolders(int copies, int have) {
        LentTerms x = Boundary.ofCommon(2, copies);
        x.term(2, 1, 1);
        x.term(2, 1, 1);
        for (int person = 0; person < 4; person++) {
            x.waits(person, (person < have ? 1 : 0) | (person % 2 == 0 ? 4 : 8), person % 2 == 0 ? 8 : 4);
        }
        x.waits(4, 0, 1);
        return x;
    }

    static void promise21MoreHaveItThanMay() {
        LentTerms x = Boundary.ofCommon(3, 1);
        x.waits(0, 1, 0);
        x.waits(1, 1 + 2, 4);
        x.waits(2, 4, 2);
        x.waits(3, 0, 1);
        dueStuck(x, 2 + 4 + 8, 2);
    }

    static void promise21OfTheKindsThatOneMayHave() {
        for (int kind = 0; kind < 6; kind++) {
            LentTerms x = Boundary.ofTerms(2, kind, 3, 1);
            x.waits(0, 1, 2);
            x.waits(1, 2, 1);
            due("KIND " + kind, x.stuck(0), kind == 2 || kind >= 4 ? 3 : 0);
        }
    }

    private static LentTerms ring(int people) {
        LentTerms x = Boundary.ofCommon(8, 1);
        for (int person = 0; person < people; person++) {
            x.waits(person, 1 << person, 1 << (person + 1) % people);
        }
        return x;
    }

    static void promise21RingsOfTwoToFive() {
        for (int people = 2; people <= 5; people++) {
            dueStuck(ring(people), (1 << people) - 1, 1);
        }
    }

    static void promise21AChainOfFiveComesLooseRoundByRound() {
        LentTerms x = Boundary.ofCommon(8, 1);
        for (int person = 0; person < 5; person++) {
            x.waits(person, 1 << person, person < 4 ? 2 << person : 0);
        }
        dueStuck(x, 0, 0);
        LentTerms y = Boundary.ofCommon(8, 1);
        for (int person = 0; person < 5; person++) {
            y.waits(person, 1 << person, person > 0 ? 1 << person - 1 : 0);
        }
        dueStuck(y, 0, 0);
    }

    static void promise21WhoHasNothingMayBeStuckAndIsNoHelp() {
        LentTerms x = ring(2);
        x.waits(2, 0, 1);
        dueStuck(x, 7, 1);
        LentTerms y = Boundary.ofCommon(3, 1);
        y.waits(0, 0, 4);
        y.waits(3, 2, 4);
        y.waits(4, 4, 2);
        dueStuck(y, 1 + 8 + 16, 8);
    }

    static void promise21OnlyStuckOnesBreak() {
        LentTerms x = Boundary.ofCommon(8, 1);
        x.waits(0, 1, 0);
        x.waits(3, 2, 4);
        x.waits(4, 4, 2);
        dueStuck(x, 8 + 16, 8);
    }

    static void promise21TheFewestAheadOfTheLeastBits() {
        LentTerms x = Boundary.ofCommon(8, 1);
        x.waits(0, 1, 16);
        x.waits(1, 2, 16);
        x.waits(2, 4, 16);
        x.waits(3, 8, 16);
        x.waits(4, 16, 1 + 2 + 4 + 8);
        dueStuck(x, 31, 16);
    }

    static void promise21TheLeastBitsOfLikeOnes() {
        LentTerms x = Boundary.ofCommon(8, 1);
        x.waits(1, 1, 2);
        x.waits(2, 2, 1);
        x.waits(3, 4, 8);
        x.waits(4, 8, 4);
        dueStuck(x, 30, 2 + 8);
    }

    static void promise21AsManyAsFourMustGiveUp() {
        LentTerms x = Boundary.ofCommon(8, 1);
        for (int person = 0; person < 5; person++) {
            x.waits(person, 1 << person, 31 & ~(1 << person));
        }
        dueStuck(x, 31, 15);
    }

    static void promise21AllWhoHaveItMustGiveUp() {
        LentTerms x = Boundary.ofCommon(2, 1);
        for (int person = 0; person < 5; person++) {
            x.waits(person, person % 2 == 0 ? 1 : 2, person % 2 == 0 ? 2 : 1);
        }
        dueStuck(x, 31, 2 + 8);
    }

    // ---- promise 22: worth

    private static void worthNumber(int place, int[] taken, int[] refused) {
        Boundary.eachTaken(common(5), "worth", WORTH, n(2, 1, 7), place, taken, 0);
        Boundary.eachRefused(common(5), "worth", WORTH, n(2, 1, 7), place, refused, BAD);
        Boundary.eachRefused(Boundary::some, "worth", WORTH, n(2, 1, 7), place, refused, BAD);
    }

    static void promise22PeopleAre0To4() {
        worthNumber(0, n(0, 4), n(-1, 5, MIN, MAX));
    }

    static void promise22TheTermIsThere() {
        worthNumber(1, n(0, 4), n(-1, 5, 7, 8, MIN, MAX));
        Boundary.eachRefused(LentTerms::new, "worth", WORTH, n(0, 0, 0), 1, n(0, -1, 7, MIN, MAX), BAD);
        Boundary.taken(Boundary.ofCommon(8, 1), "worth", WORTH, n(0, 7, 1), 0);
        Boundary.refused(Boundary::full, "worth", WORTH, n(0, 8, 1), BAD);
    }

    static void promise22WorthIs0To99() {
        worthNumber(2, n(0, 1, 98, 99), n(-1, 100, MIN, MAX));
    }

    static void promise22ItAnswersWhatItWas() {
        LentTerms x = Boundary.ofCommon(8, 1);
        int[] told = {99, 0, 1, 98, 99, 99};
        int was = 0;
        for (int v : told) {
            due("worth(4, 7, " + v + ")", x.worth(4, 7, v), was);
            was = v;
        }
    }

    static void promise22EachPersonAndTermHasItsOwn() {
        LentTerms x = Boundary.ofCommon(8, 1);
        Boundary.Sheet due = Boundary.Sheet.ofCommon(8, 1);
        for (int person = 0; person < 5; person++) {
            for (int term = 0; term < 8; term++) {
                due.worth[person][term] = 8 * person + term;
                due("worth(" + person + ", " + term + ", ..)", x.worth(person, term, 8 * person + term), 0);
            }
        }
        due("digest()", x.digest(), due.digest());
    }

    static void promise22OfATermThatComesLaterItIs0() {
        LentTerms x = Boundary.ofCommon(7, 1);
        for (int person = 0; person < 5; person++) {
            for (int term = 0; term < 7; term++) {
                x.worth(person, term, 99);
            }
        }
        due("refused", x.worth(0, 7, 99), BAD);
        x.term(0, 1, 1);
        for (int person = 0; person < 5; person++) {
            due("worth(" + person + ", 7, 5)", x.worth(person, 7, 5), 0);
        }
    }

    // ---- promise 23: deal

    private static void dueDeal(LentTerms x, int most, int... terms) {
        due("deal(NONE)", x.deal(NONE), most);
        for (int person = 0; person < terms.length; person++) {
            due("deal(" + person + ")", x.deal(person), terms[person]);
        }
    }

    static void promise23PeopleAreNoneTo4() {
        Boundary.taken(new LentTerms(), "deal", DEAL, n(NONE), 0);
        Boundary.eachTaken(LentTerms::new, "deal", DEAL, n(0), 0, n(0, 1, 2, 3, 4), 8);
        Boundary.eachRefused(LentTerms::new, "deal", DEAL, n(0), 0, n(-2, 5, MIN, MAX), BAD_TEN);
        Boundary.eachRefused(Boundary::some, "deal", DEAL, n(0), 0, n(-2, 5, MIN, MAX), BAD_TEN);
        Boundary.eachRefused(Boundary::full, "deal", DEAL, n(0), 0, n(-2, 5, MIN, MAX), BAD_TEN);
    }

    static void promise23WithoutWorthEachGetsNone() {
        dueDeal(Boundary.ofCommon(8, 3), 0, 8, 8, 8, 8, 8);
    }

    static void promise23TheLeastWorthIsDealt() {
        LentTerms x = Boundary.ofCommon(8, 1);
        x.worth(4, 7, 1);
        dueDeal(x, 1, 8, 8, 8, 8, 7);
        x.worth(0, 0, 1);
        dueDeal(x, 2, 0, 8, 8, 8, 7);
    }

    static void promise23TheMostWorthOfAll() {
        LentTerms x = Boundary.ofCommon(8, 1);
        for (int person = 0; person < 5; person++) {
            for (int term = 0; term < 8; term++) {
                x.worth(person, term, 99);
            }
        }
        dueDeal(x, 495, 0, 1, 2, 3, 4);
    }

    static void promise23ATermGoesToAsManyAsMay() {
        for (int kind = 0; kind < 6; kind++) {
            for (int copies = 1; copies <= 3; copies++) {
                LentTerms x = Boundary.ofTerms(1, kind, copies, 1);
                int may = kind == 2 || kind >= 4 ? 1 : copies;
                for (int person = 0; person < 5; person++) {
                    x.worth(person, 0, 50 - person);
                }
                int sum = 0;
                for (int person = 0; person < may; person++) {
                    sum += 50 - person;
                }
                due("KIND " + kind + ", " + copies + " COPIES", x.deal(NONE), sum);
                for (int person = 0; person < 5; person++) {
                    due("deal(" + person + ")", x.deal(person), person < may ? 0 : 8);
                }
            }
        }
    }

    static void promise23EachGetsOneAtMost() {
        LentTerms x = Boundary.ofCommon(3, 1);
        x.worth(1, 0, 9);
        x.worth(1, 1, 9);
        x.worth(1, 2, 10);
        dueDeal(x, 10, 8, 2, 8, 8, 8);
    }

    static void promise23NoneIsAheadOfAll() {
        LentTerms x = Boundary.ofCommon(1, 1);
        x.worth(0, 0, 5);
        x.worth(4, 0, 5);
        dueDeal(x, 5, 8, 8, 8, 8, 0);
        LentTerms y = Boundary.ofCommon(1, 2);
        y.worth(0, 0, 5);
        y.worth(2, 0, 5);
        y.worth(4, 0, 5);
        dueDeal(y, 10, 8, 8, 0, 8, 0);
    }

    static void promise23TermsRiseOfLikeOnes() {
        LentTerms x = Boundary.ofCommon(3, 1);
        x.worth(0, 2, 5);
        x.worth(0, 1, 5);
        x.worth(1, 1, 5);
        x.worth(1, 2, 5);
        dueDeal(x, 10, 1, 2, 8, 8, 8);
        x.worth(1, 2, 4);
        dueDeal(x, 10, 2, 1, 8, 8, 8);
    }

    static void promise23OneMayHaveToTakeTheLesser() {
        LentTerms x = Boundary.ofCommon(2, 1);
        x.worth(0, 0, 99);
        x.worth(0, 1, 98);
        x.worth(4, 0, 2);
        dueDeal(x, 100, 1, 8, 8, 8, 0);
        x.worth(4, 0, 1);
        dueDeal(x, 99, 0, 8, 8, 8, 8);
    }

    static void promise23LoansAndWaitsDoNotCount() {
        LentTerms x = Boundary.ofCommon(1, 1);
        x.worth(2, 0, 5);
        x.loan(1, 0, 0, 23);
        x.waits(1, 1, 0);
        dueDeal(x, 5, 8, 8, 0, 8, 8);
    }
}
