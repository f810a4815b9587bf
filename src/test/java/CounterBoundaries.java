import java.util.Arrays;
import java.util.stream.IntStream;

/** Promises 1 to 13: for each sentence of the document that names a boundary a test of its own. */
public final class CounterBoundaries {
    private static final int MIN = Boundary.MIN, MAX = Boundary.MAX;
    private static final int NONE = Boundary.NONE, BAD = Boundary.BAD, NO = Boundary.NO, FULL = Boundary.FULL;

    private static final Boundary.Call TERM = (x, a) -> x.term(a[0], a[1], a[2]);
    private static final Boundary.Call MAY = (x, a) -> x.may(a[0], a[1]);
    private static final Boundary.Call COST = (x, a) -> x.cost(a[0], a[1]);
    private static final Boundary.Call LOAN = (x, a) -> x.loan(a[0], a[1], a[2], a[3]);
    private static final Boundary.Call IN = (x, a) -> x.in(a[0]);
    private static final Boundary.Call BILL = (x, a) -> x.bill(a[0]);
    private static final Boundary.Call SAID = (x, a) -> x.said(a[0], a[1], a[2]);
    private static final Boundary.Call TYPE = (x, a) -> x.type(a[0], a[1]);

    public static void main(String[] args) throws ReflectiveOperationException {
        Boundary.run(CounterBoundaries.class, 1, 13);
    }

    private static int[] n(int... numbers) {
        return numbers;
    }

    private static void due(String call, long got, long due) {
        Boundary.due(call, got, due);
    }

    // ---- promise 1: a new object

    static void promise01TheConstants() {
        due("NONE", LentTerms.NONE, -1);
        due("BAD", LentTerms.BAD, -2);
        due("NO", LentTerms.NO, -3);
        due("FULL", LentTerms.FULL, -4);
    }

    static void promise01NoTerms() {
        LentTerms x = new LentTerms();
        due("count(0)", x.count(0), 0);
        for (int hour = 0; hour < 24; hour++) {
            due("in(" + hour + ")", x.in(hour), 0);
        }
        due("may(0, 0)", x.may(0, 0), BAD);
        due("cost(0, 1)", x.cost(0, 1), BAD);
    }

    static void promise01EveryListIsEmpty() {
        LentTerms x = new LentTerms();
        for (int what = 1; what <= 6; what++) {
            due("count(" + what + ")", x.count(what), 0);
        }
        due("digest()", x.digest(), new Boundary.Sheet().digest());
    }

    static void promise01AnEmptyListIsAskedWithoutHarm() {
        LentTerms x = new LentTerms();
        due("wrong()", x.wrong(), NONE);
        due("judge()", x.judge(), NONE);
        due("buy()", x.buy(), NONE);
        due("plan(NONE)", x.plan(NONE), 0);
        due("stuck(0)", x.stuck(0), 0);
        due("stuck(1)", x.stuck(1), 0);
        due("about(0)", x.about(0), 0);
        due("dumb(0)", x.dumb(0), 0);
        due("close()", x.close(), 0);
        due("clear()", x.clear(), 0);
        due("read()", x.read(), 0);
        due("status(0)", x.status(0), 0);
    }

    static void promise01AllPeopleAreThere() {
        LentTerms x = new LentTerms();
        for (int person = 0; person < 5; person++) {
            due("bill(" + person + ")", x.bill(person), 0);
            due("deal(" + person + ")", x.deal(person), 8);
            due("waits(" + person + ", 0, 0)", x.waits(person, 0, 0), 1);
        }
    }

    static void promise01WorthIsNoughtAtFirst() {
        LentTerms x = Boundary.ofCommon(8, 1);
        for (int person = 0; person < 5; person++) {
            for (int term = 0; term < 8; term++) {
                due("worth(" + person + ", " + term + ", 1)", x.worth(person, term, 1), 0);
            }
        }
    }

    static void promise01NobodyHasOrWaitsAtFirst() {
        LentTerms x = Boundary.ofCommon(8, 1);
        due("stuck(0)", x.stuck(0), 0);
        due("digest()", x.digest(), Boundary.Sheet.ofCommon(8, 1).digest());
    }

    static void promise01TheFractionIsNoughtByOne() {
        LentTerms x = new LentTerms();
        due("part(0)", x.part(0), 0);
        due("part(1)", x.part(1), 1);
    }

    static void promise01NothingWasRefused() {
        LentTerms x = new LentTerms();
        for (int what = 0; what < 3; what++) {
            due("status(" + what + ")", x.status(what), 0);
        }
    }

    static void promise01NoImageWasKept() {
        LentTerms x = new LentTerms();
        due("from(0)", x.from(0), NO);
        due("from(1)", x.from(1), NO);
    }

    static void promise01OneObjectKnowsNothingOfAnother() {
        LentTerms one = Boundary.full();
        LentTerms other = new LentTerms();
        due("another's digest()", other.digest(), new Boundary.Sheet().digest());
        due("another's from(0)", other.from(0), NO);
        long before = one.digest();
        other.term(0, 1, 1);
        other.type(1, 8);
        due("digest()", one.digest(), before);
    }

    static void promise01ItIsUsedFor512Calls() {
        LentTerms x = new LentTerms();
        for (int call = 1; call < 511; call++) {
            due("call " + call, x.term(9, 9, 9), BAD);
        }
        due("call 511", x.term(5, 3, 9), 0);
        due("call 512", x.status(0), 510);
    }

    // ---- promise 2: term

    private static void termNumber(int place, int[] taken, int[] refused) {
        Boundary.eachTaken(LentTerms::new, "term", TERM, n(1, 2, 5), place, taken, 0);
        Boundary.eachTaken(Boundary::some, "term", TERM, n(1, 2, 5), place, taken, 4);
        Boundary.eachRefused(LentTerms::new, "term", TERM, n(1, 2, 5), place, refused, BAD);
        Boundary.eachRefused(Boundary::some, "term", TERM, n(1, 2, 5), place, refused, BAD);
    }

    static void promise02KindsAre0To5() {
        termNumber(0, n(0, 1, 2, 3, 4, 5), n(-1, 6, 7, MIN, MAX));
    }

    static void promise02CopiesAre1To3() {
        termNumber(1, n(1, 2, 3), n(0, -1, 4, MIN, MAX));
    }

    static void promise02FeesAre0To9() {
        termNumber(2, n(0, 1, 8, 9), n(-1, 10, MIN, MAX));
    }

    static void promise02TheLeastAndTheLargestAreKept() {
        LentTerms x = new LentTerms();
        x.term(0, 1, 0);
        x.term(5, 3, 9);
        Boundary.Sheet due = new Boundary.Sheet();
        due.terms = Boundary.rows(n(0, 1, 0), n(5, 3, 9));
        due("digest()", x.digest(), due.digest());
    }

    static void promise02EightComeAndANinthIsFull() {
        LentTerms x = new LentTerms();
        for (int term = 0; term < 8; term++) {
            due("TERM " + term, x.term(term % 6, 1, 1), term);
        }
        due("a ninth", x.term(0, 1, 1), FULL);
        due("a tenth", x.term(5, 3, 9), FULL);
        due("count(0)", x.count(0), 8);
        due("status(2)", x.status(2), 2);
    }

    static void promise02FullChangesNothing() {
        Boundary.refused(() -> Boundary.ofCommon(8, 1), "term", TERM, n(5, 3, 9), FULL);
        Boundary.refused(Boundary::full, "term", TERM, n(5, 3, 9), FULL);
        Boundary.refused(Boundary::full, "term", TERM, n(0, 1, 0), FULL);
    }

    static void promise02BadIsAheadOfFull() {
        Boundary.eachRefused(Boundary::full, "term", TERM, n(1, 2, 5), 0, n(-1, 6, MIN, MAX), BAD);
        Boundary.eachRefused(Boundary::full, "term", TERM, n(1, 2, 5), 1, n(0, 4, MIN, MAX), BAD);
        Boundary.eachRefused(Boundary::full, "term", TERM, n(1, 2, 5), 2, n(-1, 10, MIN, MAX), BAD);
    }

    // ---- promise 3: may

    static void promise03NoTermIsThereInAnEmptyCounter() {
        Boundary.eachRefused(LentTerms::new, "may", MAY, n(0, 0), 0, n(0, -1, 7, 8, MIN, MAX), BAD);
        Boundary.eachRefused(LentTerms::new, "may", MAY, n(0, 1), 0, n(0, -1, 7, 8, MIN, MAX), BAD);
    }

    static void promise03TheTermsThatAreThere() {
        Boundary.eachTaken(Boundary::some, "may", MAY, n(0, 1), 0, n(0, 3), 2);
        Boundary.eachRefused(Boundary::some, "may", MAY, n(0, 1), 0, n(-1, 4, 5, 7, 8, MIN, MAX), BAD);
        Boundary.eachTaken(() -> Boundary.ofCommon(8, 3), "may", MAY, n(0, 0), 0, n(0, 7), 3);
        Boundary.eachRefused(Boundary::full, "may", MAY, n(0, 0), 0, n(-1, 8, MIN, MAX), BAD);
    }

    static void promise03WhatIs0Or1() {
        Boundary.taken(Boundary.some(), "may", MAY, n(1, 0), 2);
        Boundary.taken(Boundary.some(), "may", MAY, n(1, 1), 24);
        Boundary.eachRefused(Boundary::some, "may", MAY, n(1, 0), 1, n(-1, 2, 3, MIN, MAX), BAD);
    }

    static void promise03CommonShortAndDearOnesMayBeHadByAllCopies() {
        for (int copies = 1; copies <= 3; copies++) {
            LentTerms x = Boundary.ofEachKind(copies, 1);
            due("COMMON of " + copies, x.may(0, 0), copies);
            due("SHORT of " + copies, x.may(1, 0), copies);
            due("DEAR of " + copies, x.may(3, 0), copies);
        }
    }

    static void promise03SingleKeptAndGrandOnesMayBeHadByOne() {
        for (int copies = 1; copies <= 3; copies++) {
            LentTerms x = Boundary.ofEachKind(copies, 1);
            due("SINGLE of " + copies, x.may(2, 0), 1);
            due("KEPT of " + copies, x.may(4, 0), 1);
            due("GRAND of " + copies, x.may(5, 0), 1);
        }
    }

    static void promise03LongIs24OrBelowShort2() {
        LentTerms x = Boundary.ofEachKind(3, 1);
        int[] hours = {24, 2, 24, 2, 24, 2};
        for (int kind = 0; kind < 6; kind++) {
            due("LONG of KIND " + kind, x.may(kind, 1), hours[kind]);
        }
    }

    // ---- promise 4: cost

    static void promise04NoTermIsThereInAnEmptyCounter() {
        Boundary.eachRefused(LentTerms::new, "cost", COST, n(0, 1), 0, n(0, -1, 7, 8, MIN, MAX), BAD);
    }

    static void promise04TheTermsThatAreThere() {
        Boundary.taken(Boundary.some(), "cost", COST, n(0, 2), 6);
        Boundary.taken(Boundary.some(), "cost", COST, n(3, 2), 10);
        Boundary.eachRefused(Boundary::some, "cost", COST, n(0, 2), 0, n(-1, 4, 5, 7, 8, MIN, MAX), BAD);
        Boundary.taken(Boundary.full(), "cost", COST, n(7, 1), 2);
        Boundary.eachRefused(Boundary::full, "cost", COST, n(0, 2), 0, n(-1, 8, MIN, MAX), BAD);
    }

    static void promise04HoursAre1To24() {
        Boundary.taken(Boundary.some(), "cost", COST, n(1, 1), 5);
        Boundary.taken(Boundary.some(), "cost", COST, n(1, 24), 120);
        Boundary.eachRefused(Boundary::some, "cost", COST, n(1, 1), 1, n(0, -1, 25, MIN, MAX), BAD);
    }

    /** For 1, 2 and 24 hours of each KIND. */
    private static void dueCosts(int fee, int[] one, int[] two, int[] all) {
        LentTerms x = Boundary.ofEachKind(1, fee);
        for (int kind = 0; kind < 6; kind++) {
            due("cost(" + kind + ", 1) for " + fee, x.cost(kind, 1), one[kind]);
            due("cost(" + kind + ", 2) for " + fee, x.cost(kind, 2), two[kind]);
            due("cost(" + kind + ", 24) for " + fee, x.cost(kind, 24), all[kind]);
        }
    }

    static void promise04TheLeastFeeCostsNothingButWhatAKeptOneCostsMore() {
        dueCosts(0, n(0, 0, 0, 0, 5, 0), n(0, 0, 0, 0, 5, 0), n(0, 0, 0, 0, 5, 0));
    }

    static void promise04HalfOfAGrandOneIsCut() {
        dueCosts(1, n(1, 1, 1, 1, 6, 0), n(2, 2, 2, 3, 7, 1), n(24, 24, 24, 16777215, 29, 8388607));
    }

    static void promise04TheLargestFee() {
        dueCosts(9, n(9, 9, 9, 9, 14, 4), n(18, 18, 18, 27, 23, 13), n(216, 216, 216, 150994935, 221, 75497467));
    }

    static void promise04EachNextHourOfADearOneIsTwiceTheOneAhead() {
        LentTerms x = Boundary.ofEachKind(1, 3);
        int sum = 0;
        int hour = 3;
        for (int hours = 1; hours <= 24; hours++) {
            sum += hour;
            hour *= 2;
            due("cost(3, " + hours + ")", x.cost(3, hours), sum);
            due("cost(5, " + hours + ")", x.cost(5, hours), sum / 2);
        }
    }

    static void promise04CopiesDoNotCount() {
        for (int kind = 0; kind < 6; kind++) {
            due("of KIND " + kind, Boundary.ofEachKind(3, 7).cost(kind, 3), Boundary.ofEachKind(1, 7).cost(kind, 3));
        }
    }

    // ---- promise 5: loan

    private static void loanNumber(int place, int[] taken, int[] refused) {
        Boundary.eachTaken(() -> Boundary.ofCommon(4, 1), "loan", LOAN, n(2, 1, 5, 7), place, taken, 0);
        Boundary.eachTaken(Boundary::some, "loan", LOAN, n(2, 1, 5, 7), place, taken, 3);
        Boundary.eachRefused(Boundary::some, "loan", LOAN, n(2, 1, 5, 7), place, refused, BAD);
    }

    static void promise05PeopleAre0To4() {
        loanNumber(0, n(0, 4), n(-1, 5, MIN, MAX));
    }

    static void promise05TheTermIsThere() {
        loanNumber(1, n(0, 3), n(-1, 4, 7, 8, MIN, MAX));
        Boundary.eachRefused(LentTerms::new, "loan", LOAN, n(0, 0, 0, 0), 1, n(0, -1, 7, MIN, MAX), BAD);
        Boundary.taken(Boundary.ofCommon(8, 1), "loan", LOAN, n(0, 7, 0, 0), 0);
        Boundary.refused(() -> Boundary.ofCommon(8, 1), "loan", LOAN, n(0, 8, 0, 0), BAD);
    }

    static void promise05TheFirstHourIs0OrMore() {
        loanNumber(2, n(0, 1), n(-1, MIN));
    }

    static void promise05TheFirstHourIsNotBehindTheLast() {
        loanNumber(2, n(6, 7), n(8, 23, 24, MAX));
        loanNumber(3, n(5, 6), n(4, 0, -1, MIN));
        Boundary.refused(Boundary::some, "loan", LOAN, n(2, 1, 23, 22), BAD);
        Boundary.refused(Boundary::some, "loan", LOAN, n(2, 1, MAX, MIN), BAD);
        Boundary.refused(Boundary::some, "loan", LOAN, n(2, 1, MIN, MAX), BAD);
    }

    static void promise05TheLastHourIs23OrLess() {
        loanNumber(3, n(22, 23), n(24, 25, MAX));
        Boundary.refused(Boundary::some, "loan", LOAN, n(2, 1, 24, 24), BAD);
        Boundary.refused(Boundary::some, "loan", LOAN, n(2, 1, -1, -1), BAD);
    }

    static void promise05TheLeastAndTheLargestAreKept() {
        LentTerms x = Boundary.ofCommon(8, 1);
        x.loan(0, 0, 0, 0);
        x.loan(4, 7, 23, 23);
        x.loan(4, 0, 0, 23);
        Boundary.Sheet due = Boundary.Sheet.ofCommon(8, 1);
        due.loans = Boundary.rows(n(0, 0, 0, 0), n(4, 7, 23, 23), n(4, 0, 0, 23));
        due("digest()", x.digest(), due.digest());
    }

    static void promise05AWrongOneIsTaken() {
        LentTerms x = Boundary.ofEachKind(1, 1);
        due("longer than LONG", x.loan(0, 1, 0, 23), 0);
        due("more than may", x.loan(0, 1, 0, 23), 1);
    }

    static void promise05TenComeAndAnEleventhIsFull() {
        LentTerms x = Boundary.ofCommon(1, 1);
        for (int loan = 0; loan < 10; loan++) {
            due("LOAN " + loan, x.loan(loan % 5, 0, loan, 23), loan);
        }
        due("an eleventh", x.loan(0, 0, 0, 0), FULL);
        due("count(1)", x.count(1), 10);
        due("close()", x.close(), 10);
        due("the first again", x.loan(0, 0, 0, 0), 0);
    }

    static void promise05FullChangesNothing() {
        Boundary.refused(Boundary::full, "loan", LOAN, n(4, 7, 0, 23), FULL);
        Boundary.refused(Boundary::full, "loan", LOAN, n(0, 0, 0, 0), FULL);
    }

    static void promise05BadIsAheadOfFull() {
        int[] fine = {2, 1, 5, 7};
        Boundary.eachRefused(Boundary::full, "loan", LOAN, fine, 0, n(-1, 5, MIN, MAX), BAD);
        Boundary.eachRefused(Boundary::full, "loan", LOAN, fine, 1, n(-1, 8, MIN, MAX), BAD);
        Boundary.eachRefused(Boundary::full, "loan", LOAN, fine, 2, n(-1, 8, MIN, MAX), BAD);
        Boundary.eachRefused(Boundary::full, "loan", LOAN, fine, 3, n(4, 24, MIN, MAX), BAD);
    }

    // ---- promise 6: close

    static void promise06NoneOfAnEmptyList() {
        LentTerms x = new LentTerms();
        due("close()", x.close(), 0);
        due("digest()", x.digest(), new Boundary.Sheet().digest());
    }

    static void promise06AllOfAFullList() {
        LentTerms x = Boundary.full();
        due("close()", x.close(), 10);
        due("count(1)", x.count(1), 0);
        due("count(2)", x.count(2), 0);
        due("close() again", x.close(), 0);
    }

    static void promise06WhatWasSaidDoesNotCount() {
        LentTerms x = Boundary.ofCommon(1, 1);
        x.said(0, 0, 0);
        x.said(0, 0, 0);
        due("close()", x.close(), 0);
        due("count(2)", x.count(2), 0);
        due("judge()", x.judge(), NONE);
    }

    static void promise06NothingElseChanges() {
        LentTerms x = Boundary.ofCommon(3, 2), twin = Boundary.ofCommon(3, 2);
        for (LentTerms one : Arrays.asList(x, twin)) {
            one.rule(0, 1, 2);
            one.want(0, 3, 4, 6);
            one.waits(0, 4, 2);
            one.worth(3, 1, 9);
            one.saying(3, 9);
            one.odds(0, 0);
            one.image(0);
            one.type(';', 1);
        }
        x.loan(0, 0, 3, 4);
        x.said(1, 2, 5);
        due("close()", x.close(), 1);
        due("all else is as before", Boundary.alike(x, twin), 1);
    }

    static void promise06BothListsBeginAnew() {
        LentTerms x = Boundary.full();
        x.close();
        for (int i = 0; i < 10; i++) {
            due("LOAN " + i, x.loan(0, 0, 0, 0), i);
            due("SAID " + i, x.said(0, 0, 0), i);
        }
        due("an eleventh LOAN", x.loan(0, 0, 0, 0), FULL);
        due("an eleventh SAID", x.said(0, 0, 0), FULL);
    }

    // ---- promise 7: wrong

    static void promise07NoneOfAnEmptyList() {
        due("of a new one", new LentTerms().wrong(), NONE);
        due("of TERMS alone", Boundary.ofEachKind(1, 1).wrong(), NONE);
        due("status(0)", new LentTerms().status(0), 0);
    }

    static void promise07AsLongAsLongIsNotWrong() {
        int[] hours = {24, 2, 24, 2, 24, 2};
        for (int kind = 0; kind < 6; kind++) {
            LentTerms x = Boundary.ofEachKind(1, 1);
            x.loan(0, kind, 24 - hours[kind], 23);
            due("KIND " + kind, x.wrong(), NONE);
        }
    }

    static void promise07OneHourLongerThanLongIsWrong() {
        for (int kind = 1; kind < 6; kind += 2) {
            LentTerms x = Boundary.ofEachKind(3, 1);
            x.loan(0, 0, 0, 0);
            x.loan(0, kind, 21, 23);
            due("KIND " + kind, x.wrong(), 1);
        }
    }

    static void promise07TheVeryFirstLoanMayBeWrong() {
        for (int kind = 1; kind < 6; kind += 2) {
            LentTerms x = Boundary.ofEachKind(3, 1);
            x.loan(0, kind, 0, 2);
            x.loan(0, kind, 0, 23);
            due("KIND " + kind, x.wrong(), 0);
        }
    }

    static void promise07AsManyAsMayAreNotWrongOneMoreIs() {
        for (int kind = 0; kind < 6; kind++) {
            for (int copies = 1; copies <= 3; copies++) {
                LentTerms x = Boundary.ofEachKind(copies, 1);
                int may = kind == 2 || kind >= 4 ? 1 : copies;
                for (int loan = 0; loan < may; loan++) {
                    x.loan(loan, kind, 7, 8);
                    due(may + " may, " + (loan + 1) + " have it", x.wrong(), NONE);
                }
                x.loan(4, kind, 8, 9);
                due(may + " may, one more has it", x.wrong(), may);
            }
        }
    }

    static void promise07OneWhoHasItTwiceCountsTwice() {
        LentTerms x = Boundary.ofCommon(1, 1);
        x.loan(3, 0, 7, 9);
        x.loan(3, 0, 9, 9);
        due("wrong()", x.wrong(), 1);
        LentTerms y = Boundary.ofCommon(1, 2);
        y.loan(3, 0, 7, 9);
        y.loan(3, 0, 9, 9);
        due("of two COPIES", y.wrong(), NONE);
        y.loan(3, 0, 9, 9);
        due("thrice", y.wrong(), 2);
    }

    static void promise07OneCommonHourIsEnough() {
        int[][] ways = {{5, 7}, {7, 9}, {9, 11}, {0, 23}, {8, 8}, {7, 7}, {9, 9}, {0, 7}, {9, 23}};
        for (int[] way : ways) {
            LentTerms x = Boundary.ofCommon(1, 1);
            x.loan(0, 0, 7, 9);
            x.loan(1, 0, way[0], way[1]);
            due("7 to 9 and " + way[0] + " to " + way[1], x.wrong(), 1);
        }
    }

    static void promise07TheHourAheadAndTheHourBehindAreFree() {
        LentTerms x = Boundary.ofCommon(1, 1);
        x.loan(0, 0, 7, 9);
        x.loan(1, 0, 6, 6);
        x.loan(2, 0, 10, 10);
        x.loan(3, 0, 0, 5);
        x.loan(4, 0, 11, 23);
        due("wrong()", x.wrong(), NONE);
    }

    static void promise07TheFirstAndTheLastHourOfADay() {
        LentTerms x = Boundary.ofCommon(2, 1);
        x.loan(0, 0, 0, 0);
        x.loan(0, 1, 23, 23);
        due("one each", x.wrong(), NONE);
        x.loan(1, 1, 23, 23);
        due("twice in 23", x.wrong(), 2);
        LentTerms y = Boundary.ofCommon(1, 1);
        y.loan(0, 0, 0, 0);
        y.loan(1, 0, 0, 0);
        due("twice in 0", y.wrong(), 1);
    }

    static void promise07OnlyThoseAheadCount() {
        LentTerms x = Boundary.ofCommon(2, 1);
        x.loan(0, 0, 0, 23);
        x.loan(0, 1, 0, 23);
        x.loan(1, 1, 5, 5);
        x.loan(1, 0, 5, 5);
        due("the first that can not be", x.wrong(), 2);
    }

    static void promise07AnotherTermDoesNotCount() {
        LentTerms x = Boundary.ofCommon(8, 1);
        for (int term = 0; term < 8; term++) {
            x.loan(0, term, 0, 23);
        }
        due("wrong()", x.wrong(), NONE);
    }

    static void promise07TheLastOfAFullList() {
        LentTerms x = Boundary.ofCommon(5, 2);
        for (int loan = 0; loan < 9; loan++) {
            x.loan(0, loan / 2, 0, 23);
        }
        due("nine", x.wrong(), NONE);
        x.loan(1, 0, 23, 23);
        due("ten", x.wrong(), 9);
    }

    // ---- promise 8: in

    static void promise08HoursAre0To23() {
        Boundary.eachTaken(() -> Boundary.ofCommon(8, 1), "in", IN, n(0), 0, n(0, 1, 22, 23), 255);
        Boundary.eachRefused(() -> Boundary.ofCommon(8, 1), "in", IN, n(0), 0, n(-1, 24, 25, MIN, MAX), BAD);
        Boundary.eachRefused(LentTerms::new, "in", IN, n(0), 0, n(-1, 24, MIN, MAX), BAD);
        Boundary.eachRefused(Boundary::full, "in", IN, n(0), 0, n(-1, 24, MIN, MAX), BAD);
    }

    static void promise08OneMoreMayBeLentUntilAllCopiesAre() {
        for (int copies = 1; copies <= 3; copies++) {
            LentTerms x = Boundary.ofEachKind(copies, 1);
            for (int kind = 0; kind < 6; kind++) {
                int may = kind == 2 || kind >= 4 ? 1 : copies;
                for (int loan = 0; loan < may; loan++) {
                    due("KIND " + kind + ", " + loan + " of " + may, x.in(5) >> kind & 1, 1);
                    x.loan(0, kind, 5, 5);
                }
                due("KIND " + kind + ", all", x.in(5) >> kind & 1, 0);
                x.close();
            }
        }
    }

    static void promise08BothEndsOfALoanCountAndNoMore() {
        LentTerms x = Boundary.ofCommon(2, 1);
        x.loan(0, 0, 7, 9);
        int[] hours = {0, 6, 7, 8, 9, 10, 23}, bits = {3, 3, 2, 2, 2, 3, 3};
        for (int i = 0; i < hours.length; i++) {
            due("in(" + hours[i] + ")", x.in(hours[i]), bits[i]);
        }
        x.loan(0, 1, 0, 0);
        x.loan(0, 1, 23, 23);
        due("in(0)", x.in(0), 1);
        due("in(1)", x.in(1), 3);
        due("in(22)", x.in(22), 3);
        due("in(23)", x.in(23), 1);
    }

    static void promise08WrongOnesCountToo() {
        LentTerms x = Boundary.ofTerms(1, 1, 1, 1);
        x.loan(0, 0, 3, 9);
        due("longer than LONG", x.in(9), 0);
        LentTerms y = Boundary.ofCommon(1, 1);
        y.loan(0, 0, 3, 4);
        y.loan(1, 0, 4, 9);
        due("more than may", y.in(4), 0);
        due("by the wrong one alone", y.in(9), 0);
        due("by none", y.in(10), 1);
    }

    static void promise08AFullListOfOneTerm() {
        LentTerms x = Boundary.ofCommon(8, 3);
        for (int loan = 0; loan < 10; loan++) {
            x.loan(0, 7, 0, 23);
        }
        due("in(12)", x.in(12), 127);
    }

    // ---- promise 9: bill

    static void promise09PeopleAre0To4() {
        Boundary.eachTaken(LentTerms::new, "bill", BILL, n(0), 0, n(0, 1, 2, 3, 4), 0);
        Boundary.eachRefused(LentTerms::new, "bill", BILL, n(0), 0, n(-1, 5, MIN, MAX), BAD);
        Boundary.eachRefused(Boundary::some, "bill", BILL, n(0), 0, n(-1, 5, MIN, MAX), BAD);
        Boundary.eachRefused(Boundary::full, "bill", BILL, n(0), 0, n(-1, 5, MIN, MAX), BAD);
    }

    static void promise09OneOfNoLoansOwesNothing() {
        LentTerms x = Boundary.ofCommon(1, 1);
        for (int person = 0; person < 4; person++) {
            x.loan(person, 0, 0, 23);
        }
        due("bill(4)", x.bill(4), 0);
        due("bill(0)", x.bill(0), 24);
    }

    static void promise09BothHoursCount() {
        LentTerms x = Boundary.ofTerms(1, 0, 1, 7);
        x.loan(0, 0, 5, 5);
        x.loan(1, 0, 5, 6);
        x.loan(2, 0, 0, 23);
        due("one hour", x.bill(0), 7);
        due("two hours", x.bill(1), 14);
        due("all hours", x.bill(2), 168);
    }

    static void promise09WrongLoansCostToo() {
        LentTerms x = Boundary.ofEachKind(1, 2);
        x.loan(0, 3, 0, 3);
        x.loan(0, 5, 0, 3);
        x.loan(0, 4, 0, 3);
        x.loan(0, 4, 0, 3);
        due("bill(0)", x.bill(0), 30 + 15 + 13 + 13);
    }

    static void promise09TheHalfIsCutForEachLoan() {
        LentTerms x = Boundary.ofTerms(1, 5, 1, 1);
        x.loan(0, 0, 0, 0);
        x.loan(0, 0, 1, 1);
        due("bill(0)", x.bill(0), 0);
    }

    static void promise09AllTenLoansAtTheirDearest() {
        LentTerms x = Boundary.ofTerms(1, 3, 1, 9);
        for (int loan = 0; loan < 10; loan++) {
            x.loan(4, 0, 0, 23);
        }
        due("bill(4)", x.bill(4), 1509949350);
    }

    // ---- promise 10: said

    private static void saidNumber(int place, int[] taken, int[] refused) {
        Boundary.eachTaken(() -> Boundary.ofCommon(4, 1), "said", SAID, n(2, 1, 5), place, taken, 0);
        Boundary.eachTaken(Boundary::some, "said", SAID, n(2, 1, 5), place, taken, 2);
        Boundary.eachRefused(Boundary::some, "said", SAID, n(2, 1, 5), place, refused, BAD);
    }

    static void promise10PeopleAre0To4() {
        saidNumber(0, n(0, 4), n(-1, 5, MIN, MAX));
    }

    static void promise10TheTermIsThere() {
        saidNumber(1, n(0, 3), n(-1, 4, 7, 8, MIN, MAX));
        Boundary.eachRefused(LentTerms::new, "said", SAID, n(0, 0, 0), 1, n(0, -1, 7, MIN, MAX), BAD);
        Boundary.taken(Boundary.ofCommon(8, 1), "said", SAID, n(0, 7, 0), 0);
        Boundary.refused(() -> Boundary.ofCommon(8, 1), "said", SAID, n(0, 8, 0), BAD);
    }

    static void promise10HoursAre0To23() {
        saidNumber(2, n(0, 23), n(-1, 24, MIN, MAX));
    }

    static void promise10TheLeastAndTheLargestAreKept() {
        LentTerms x = Boundary.ofCommon(8, 1);
        x.said(0, 0, 0);
        x.said(4, 7, 23);
        Boundary.Sheet due = Boundary.Sheet.ofCommon(8, 1);
        due.said = Boundary.rows(n(0, 0, 0), n(4, 7, 23));
        due("digest()", x.digest(), due.digest());
    }

    static void promise10TenComeAndAnEleventhIsFull() {
        LentTerms x = Boundary.ofCommon(1, 1);
        for (int i = 0; i < 10; i++) {
            due("SAID " + i, x.said(i % 5, 0, i), i);
        }
        due("an eleventh", x.said(0, 0, 0), FULL);
        due("count(2)", x.count(2), 10);
    }

    static void promise10FullChangesNothing() {
        Boundary.refused(Boundary::full, "said", SAID, n(4, 7, 23), FULL);
        Boundary.refused(Boundary::full, "said", SAID, n(0, 0, 0), FULL);
    }

    static void promise10BadIsAheadOfFull() {
        Boundary.eachRefused(Boundary::full, "said", SAID, n(2, 1, 5), 0, n(-1, 5, MIN, MAX), BAD);
        Boundary.eachRefused(Boundary::full, "said", SAID, n(2, 1, 5), 1, n(-1, 8, MIN, MAX), BAD);
        Boundary.eachRefused(Boundary::full, "said", SAID, n(2, 1, 5), 2, n(-1, 24, MIN, MAX), BAD);
    }

    // ---- promise 11: judge

    static void promise11NoneOfAnEmptyList() {
        due("of a new one", new LentTerms().judge(), NONE);
        LentTerms x = Boundary.ofCommon(1, 1);
        x.loan(0, 0, 0, 23);
        due("of LOANS alone", x.judge(), NONE);
    }

    static void promise11WithoutAnyLoanTheFirst() {
        LentTerms x = Boundary.ofCommon(1, 1);
        x.said(0, 0, 0);
        x.said(1, 0, 0);
        due("judge()", x.judge(), 0);
    }

    static void promise11BothEndsOfALoanCountAndNoMore() {
        int[] hours = {0, 6, 7, 8, 9, 10, 23}, due = {0, 0, NONE, NONE, NONE, 0, 0};
        for (int i = 0; i < hours.length; i++) {
            LentTerms x = Boundary.ofCommon(1, 1);
            x.loan(2, 0, 7, 9);
            x.said(2, 0, hours[i]);
            due("in hour " + hours[i], x.judge(), due[i]);
        }
    }

    static void promise11AllHoursOfADay() {
        LentTerms x = Boundary.ofCommon(1, 1);
        x.loan(2, 0, 0, 23);
        x.said(2, 0, 0);
        x.said(2, 0, 23);
        due("judge()", x.judge(), NONE);
    }

    static void promise11AnothersLoanIsNone() {
        LentTerms x = Boundary.ofCommon(1, 1);
        x.loan(2, 0, 0, 23);
        x.said(2, 0, 5);
        x.said(3, 0, 5);
        due("judge()", x.judge(), 1);
    }

    static void promise11ALoanOfAnotherTermIsNone() {
        LentTerms x = Boundary.ofCommon(2, 1);
        x.loan(2, 0, 0, 23);
        x.said(2, 0, 5);
        x.said(2, 1, 5);
        due("judge()", x.judge(), 1);
    }

    static void promise11AnyLoanOfHisIsEnoughAWrongOneToo() {
        LentTerms x = Boundary.ofTerms(1, 2, 1, 1);
        x.loan(2, 0, 0, 3);
        x.loan(2, 0, 9, 9);
        x.loan(3, 0, 9, 9);
        x.said(2, 0, 9);
        x.said(3, 0, 9);
        due("judge()", x.judge(), NONE);
        due("the last one is wrong", x.wrong(), 2);
    }

    static void promise11TheLastOfAFullList() {
        LentTerms x = Boundary.ofCommon(1, 1);
        for (int loan = 0; loan < 9; loan++) {
            x.loan(0, 0, 0, 0);
        }
        x.loan(4, 0, 23, 23);
        for (int i = 0; i < 9; i++) {
            x.said(4, 0, 23);
        }
        due("nine who had it", x.judge(), NONE);
        x.said(4, 0, 22);
        due("the tenth had it not", x.judge(), 9);
    }

    // ---- promise 12: type

    static void promise12BytesAre1To8() {
        for (int bytes = 1; bytes <= 8; bytes++) {
            Boundary.taken(new LentTerms(), "type", TYPE, n(-1, bytes), bytes);
            Boundary.taken(Boundary.some(), "type", TYPE, n(-1, bytes), 23 + bytes);
        }
        Boundary.eachRefused(LentTerms::new, "type", TYPE, n(';', 1), 1, n(0, -1, 9, MIN, MAX), BAD);
        Boundary.eachRefused(Boundary::some, "type", TYPE, n(';', 1), 1, n(0, -1, 9, MIN, MAX), BAD);
    }

    static void promise12TheHighestComesFirst() {
        LentTerms x = new LentTerms();
        x.type(0x7465726d20302031L, 8);
        x.type(0x20333b, 3);
        due("<term 0 1 3;>", x.read(), 1);
        due("its FEE", x.cost(0, 1), 3);
    }

    static void promise12OnlyTheLowestOnesCome() {
        LentTerms x = Boundary.with("term 0 1 ");
        due("type(.., 2)", x.type(0x616161616161373bL, 2), 11);
        due("read()", x.read(), 1);
        due("its FEE", x.cost(0, 1), 7);
        LentTerms y = Boundary.with("term 0 1 8");
        due("type(.., 1)", y.type(-256L + ';', 1), 11);
        due("read()", y.read(), 1);
    }

    static void promise12AnyLongAndAnyByteComes() {
        long[] any = {Long.MIN_VALUE, Long.MAX_VALUE, 0, -1, 255, 256};
        LentTerms x = new LentTerms();
        for (int i = 0; i < any.length; i++) {
            due("type(" + any[i] + ", 8)", x.type(any[i], 8), 8 * i + 8);
        }
        for (int b = 0; b < 200; b++) {
            due("the byte " + b, x.type(b, 1), 49 + b);
        }
        x.clear();
        for (int b = 200; b < 256; b++) {
            due("the byte " + b, x.type(b, 1), b - 199);
        }
    }

    private static LentTerms ofBytes(int bytes) {
        return Boundary.with(" ".repeat(bytes));
    }

    static void promise12250BytesAreTakenOneMoreIsFull() {
        for (int bytes = 1; bytes <= 8; bytes++) {
            due(bytes + " more make 250", ofBytes(250 - bytes).type(0, bytes), 250);
            due(bytes + " more make 251", ofBytes(251 - bytes).type(0, bytes), FULL);
            due(bytes + " more than 250", ofBytes(250).type(0, bytes), FULL);
        }
    }

    static void promise12FullChangesNothing() {
        for (int bytes = 1; bytes <= 8; bytes++) {
            int most = 251 - bytes;
            Boundary.refused(() -> ofBytes(most), "type", TYPE, n(-1, bytes), FULL);
            Boundary.refused(Boundary::full, "type", TYPE, n(-1, bytes), FULL);
        }
    }

    static void promise12WhatWasFullLeavesRoomForLess() {
        LentTerms x = ofBytes(248);
        due("three", x.type(0x616263, 3), FULL);
        due("none of them came", x.read(), 0);
        due("two", x.type(0x2020, 2), 250);
        due("read()", x.read(), 0);
        due("one more", x.type(' ', 1), FULL);
    }

    static void promise12BadIsAheadOfFull() {
        Boundary.eachRefused(() -> ofBytes(250), "type", TYPE, n(0, 1), 1, n(0, -1, 9, MIN, MAX), BAD);
        Boundary.eachRefused(() -> ofBytes(243), "type", TYPE, n(0, 1), 1, n(0, 9, MIN, MAX), BAD);
        Boundary.eachRefused(Boundary::full, "type", TYPE, n(0, 1), 1, n(0, 9, MIN, MAX), BAD);
    }

    // ---- promise 13: clear

    static void promise13AnEmptyOneHadNone() {
        LentTerms x = new LentTerms();
        due("clear()", x.clear(), 0);
        due("clear() again", x.clear(), 0);
        due("digest()", x.digest(), new Boundary.Sheet().digest());
    }

    static void promise13HowManyItHad() {
        for (int bytes : IntStream.of(1, 2, 7, 8, 9, 249, 250).toArray()) {
            LentTerms x = ofBytes(bytes);
            due("of " + bytes, x.clear(), bytes);
            due("count(6)", x.count(6), 0);
            due("clear() again", x.clear(), 0);
        }
    }

    static void promise13ItIsEmptyAndTakesAllAnew() {
        LentTerms x = Boundary.full();
        due("clear()", x.clear(), 250);
        due("the first byte", x.type('x', 1), 1);
        due("read()", x.read(), -10);
        for (int bytes = 9; bytes <= 249; bytes += 8) {
            due("type", x.type(0x2020202020202020L, 8), bytes);
        }
        due("the last", x.type(' ', 1), 250);
        due("one more", x.type(' ', 1), FULL);
    }

    static void promise13NothingElseChanges() {
        LentTerms x = Boundary.some(), twin = Boundary.some();
        twin.clear();
        x.type(';', 1);
        due("clear()", x.clear(), 24);
        due("all else is as before", Boundary.alike(x, twin), 1);
    }
}
