import java.util.Arrays;

/** Terms lent over a counter. The words in capitals are those of ../shared/DOC.md. */
public final class LentTerms {
    public static final int NONE = -1, BAD = -2, NO = -3, FULL = -4;

    private static final int BAD_TEN = -10, NOT_SO_MANY = -5;
    private static final int FIRST_FAULT = -10, FIRST_REFUSED_ITEM = -1000;

    private static final int PEOPLE = 5, HOURS = 24, WAIT_HOURS = 5, SHORT_HOURS = 2;
    private static final int KINDS = 6, MOST_COPIES = 3, MOST_FEE = 9, MOST_WORTH = 99, MOST_USED = 9;
    private static final int TERM_LIMIT = 8, LOAN_LIMIT = 10, SAID_LIMIT = 10, RULE_LIMIT = 8;
    private static final int WANT_LIMIT = 5, WANT_TERMS = 3, SAYING_LIMIT = 8;
    private static final int TEXT_LIMIT = 250, TYPE_LIMIT = 8, IMAGE_LIMIT = 2, COUNTS = 7;

    private static final int EVERYBODY = (1 << PEOPLE) - 1;

    /* The columns of the rows that a COUNTER holds. */
    private static final int KIND = 0, COPIES = 1, FEE = 2;
    private static final int WHO = 0, WHAT = 1, FIRST_HOUR = 2, LAST_HOUR = 3;
    private static final int SAID_AS = 0, LEFT = 1, RIGHT = 2;
    private static final int SET = 0, USED = 1;

    private final Text text = new Text();
    private final Talk talk = new Talk();
    private final Schedule schedule = new Schedule();
    private final Deal deal = new Deal();
    private final Counter[] images = new Counter[IMAGE_LIMIT];
    private Counter now = new Counter();
    private Counter draft = new Counter();
    private int above = 0, below = 1;
    private int bad = 0, no = 0, full = 0;

    public LentTerms() {
    }

    // ---- a counter

    public int term(int kind, int copies, int fee) {
        return told(now.addTerm(kind, copies, fee));
    }

    public int may(int term, int what) {
        if (!now.terms.holds(term) || what < 0 || what > 1) {
            return told(BAD);
        }
        return what == 0 ? now.mayHave(term) : now.longest(term);
    }

    public int cost(int term, int n) {
        if (!now.terms.holds(term) || n < 1 || n > HOURS) {
            return told(BAD);
        }
        return now.price(term, n);
    }

    public int loan(int person, int term, int a, int b) {
        return told(now.addLoan(person, term, a, b));
    }

    public int close() {
        int loans = now.loans.size();
        now.loans.empty();
        now.said.empty();
        return loans;
    }

    public int wrong() {
        return now.firstWrongLoan();
    }

    public int in(int hour) {
        return isHour(hour) ? now.termsIn(hour) : told(BAD);
    }

    public int bill(int person) {
        return isPerson(person) ? now.billOf(person) : told(BAD);
    }

    public int said(int person, int term, int hour) {
        return told(now.addSaid(person, term, hour));
    }

    public int judge() {
        return now.firstWithoutLoan();
    }

    public int type(long v, int n) {
        return told(text.append(v, n));
    }

    public int clear() {
        return text.empty();
    }

    public int read() {
        draft.forget();
        int answer = text.tellTo(draft);
        if (answer >= 0) {
            Counter before = now;
            now = draft;
            draft = before;
        }
        return answer;
    }

    // ---- round about

    public int rule(int t, int u, int v) {
        return told(now.addRule(t, u, v));
    }

    public int roundAbout(int term, int set, int i) {
        if (!now.terms.holds(term) || !now.isSet(set) || i < NONE) {
            return badTen();
        }
        talk.weigh(now, set);
        int fewest = talk.fewest(term);
        if (fewest == 0) {
            return NONE;
        }
        if (i == NONE) {
            return fewest;
        }
        return i < fewest ? talk.placeOfRow(now, term, i) : NOT_SO_MANY;
    }

    // ---- plans

    public int want(int person, int set, int a, int b) {
        return told(now.addWant(person, set, a, b));
    }

    public int plan(int want) {
        if (want != NONE && !now.wants.holds(want)) {
            return badTen();
        }
        int met = schedule.mostMet(now, NONE);
        return want == NONE ? met : schedule.hourOf(want);
    }

    public int buy() {
        return schedule.bestToBuy(now);
    }

    public int waits(int person, int has, int waitsFor) {
        return told(now.setWaits(person, has, waitsFor));
    }

    public int stuck(int what) {
        if (what < 0 || what > 1) {
            return told(BAD);
        }
        return what == 0 ? Ring.stuckAfter(now, 0) : Ring.leastBreak(now);
    }

    public int worth(int person, int term, int v) {
        return told(now.setWorth(person, term, v));
    }

    public int deal(int person) {
        if (person != NONE && !isPerson(person)) {
            return badTen();
        }
        int most = deal.mostWorth(now);
        return person == NONE ? most : deal.termOf(person);
    }

    // ---- what is about to be said

    public int saying(int set, int used) {
        return told(now.addSaying(set, used));
    }

    public int about(int taken) {
        return now.isSet(taken) ? now.sayingsWith(taken) : told(BAD);
    }

    public int odds(int taken, int saying) {
        if (!now.isSet(taken) || !now.sayings.holds(saying)) {
            return told(BAD);
        }
        int able = now.sayingsWith(taken);
        if (!hasBit(able, saying)) {
            return told(NO);
        }
        setFraction(now.sayings.at(saying, USED), now.usedOf(able));
        return 1;
    }

    public int dumb(int matter) {
        return now.isMatter(matter) ? talk.leastKept(now, matter) : told(BAD);
    }

    // ---- what there is

    public long part(int what) {
        if (what < 0 || what > 1) {
            return told(BAD);
        }
        return what == 0 ? above : below;
    }

    public int image(int i) {
        if (!isImage(i)) {
            return told(BAD);
        }
        Counter kept = images[i];
        if (kept == null) {
            kept = new Counter();
            images[i] = kept;
        }
        kept.copyFrom(now);
        return 1;
    }

    public int from(int i) {
        if (!isImage(i)) {
            return told(BAD);
        }
        Counter kept = images[i];
        if (kept == null) {
            return told(NO);
        }
        now.copyFrom(kept);
        return 1;
    }

    public int status(int what) {
        switch (what) {
            case 0:
                return bad;
            case 1:
                return no;
            case 2:
                return full;
            default:
                bad++;
                return NONE;
        }
    }

    public int count(int what) {
        return told(howMany(what));
    }

    public long digest() {
        long h = 719;
        for (int what = 0; what < COUNTS; what++) {
            h = 31 * h + howMany(what);
        }
        h = now.digestOn(h);
        h = 31 * h + above;
        return 31 * h + below;
    }

    private int howMany(int what) {
        switch (what) {
            case 0:
                return now.terms.size();
            case 1:
                return now.loans.size();
            case 2:
                return now.said.size();
            case 3:
                return now.rules.size();
            case 4:
                return now.wants.size();
            case 5:
                return now.sayings.size();
            case 6:
                return text.size();
            default:
                return BAD;
        }
    }

    /** All answers that may be refusals go through here, so that none is left out of STATUS. */
    private int told(int answer) {
        if (answer == BAD) {
            bad++;
        } else if (answer == NO) {
            no++;
        } else if (answer == FULL) {
            full++;
        }
        return answer;
    }

    private int badTen() {
        bad++;
        return BAD_TEN;
    }

    /** USED is 9 at most, so that counting down from it is short. */
    private void setFraction(int one, int all) {
        above = one;
        below = all;
        for (int d = one; d > 1; d--) {
            if (one % d == 0 && all % d == 0) {
                above = one / d;
                below = all / d;
                return;
            }
        }
    }

    private static boolean isPerson(int person) {
        return person >= 0 && person < PEOPLE;
    }

    private static boolean isHour(int hour) {
        return hour >= 0 && hour < HOURS;
    }

    private static boolean isImage(int i) {
        return i >= 0 && i < IMAGE_LIMIT;
    }

    private static boolean hasBit(int bits, int i) {
        return i >= 0 && i < 32 && (bits >> i & 1) == 1;
    }

    /** What a KIND says, told down from the KIND that it is under. */
    private static final class Kinds {
        private static final int COMMON = 0, SHORT = 1, SINGLE = 2, DEAR = 3, KEPT = 4, GRAND = 5;
        private static final int KEEPING = 5;

        static boolean isOneAtATime(int kind) {
            return kind == SINGLE || kind == KEPT || kind == GRAND;
        }

        static int longest(int kind) {
            return kind == SHORT || kind == DEAR || kind == GRAND ? SHORT_HOURS : HOURS;
        }

        static int price(int kind, int fee, int hours) {
            switch (kind) {
                case DEAR:
                    return doubling(fee, hours);
                case GRAND:
                    return doubling(fee, hours) / 2;
                case KEPT:
                    return hours * fee + KEEPING;
                default:
                    return hours * fee;
            }
        }

        /** FEE, twice FEE, four times FEE .. in all. */
        private static int doubling(int fee, int hours) {
            return fee * ((1 << hours) - 1);
        }
    }

    /** Rows of up to four numbers, as they come. All have one shape, so that one can be laid over another. */
    private static final class Rows {
        private static final int MOST_ROWS = 10, MOST_WIDTH = 4;

        private final int[] cells = new int[MOST_ROWS * MOST_WIDTH];
        private final int limit, width;
        private int size = 0;

        Rows(int limit, int width) {
            this.limit = Math.min(limit, MOST_ROWS);
            this.width = Math.min(width, MOST_WIDTH);
        }

        int size() {
            return size;
        }

        boolean holds(int row) {
            return row >= 0 && row < size;
        }

        int at(int row, int column) {
            boolean isThere = row >= 0 && row < size && column >= 0 && column < width;
            return isThere ? cells[row * MOST_WIDTH + column] : 0;
        }

        /** The row's number, or FULL. */
        int add(int a, int b, int c, int d) {
            if (size >= limit) {
                return FULL;
            }
            int place = size * MOST_WIDTH;
            cells[place] = a;
            cells[place + 1] = b;
            cells[place + 2] = c;
            cells[place + 3] = d;
            size++;
            return size - 1;
        }

        void empty() {
            size = 0;
        }

        void copyFrom(Rows other) {
            System.arraycopy(other.cells, 0, cells, 0, MOST_ROWS * MOST_WIDTH);
            size = other.size;
        }

        long digestOn(long before) {
            long h = before;
            for (int row = 0; row < size; row++) {
                for (int column = 0; column < width; column++) {
                    h = 31 * h + at(row, column);
                }
            }
            return h;
        }
    }

    /** All that is told: what an IMAGE keeps. */
    private static final class Counter {
        private final Rows terms = new Rows(TERM_LIMIT, 3);
        private final Rows loans = new Rows(LOAN_LIMIT, 4);
        private final Rows said = new Rows(SAID_LIMIT, 3);
        private final Rows rules = new Rows(RULE_LIMIT, 3);
        private final Rows wants = new Rows(WANT_LIMIT, 4);
        private final Rows sayings = new Rows(SAYING_LIMIT, 2);
        private final int[] has = new int[PEOPLE];
        private final int[] waitsFor = new int[PEOPLE];
        private final int[] worth = new int[PEOPLE * TERM_LIMIT];

        void forget() {
            terms.empty();
            loans.empty();
            said.empty();
            rules.empty();
            wants.empty();
            sayings.empty();
            Arrays.fill(has, 0);
            Arrays.fill(waitsFor, 0);
            Arrays.fill(worth, 0);
        }

        void copyFrom(Counter other) {
            terms.copyFrom(other.terms);
            loans.copyFrom(other.loans);
            said.copyFrom(other.said);
            rules.copyFrom(other.rules);
            wants.copyFrom(other.wants);
            sayings.copyFrom(other.sayings);
            System.arraycopy(other.has, 0, has, 0, PEOPLE);
            System.arraycopy(other.waitsFor, 0, waitsFor, 0, PEOPLE);
            System.arraycopy(other.worth, 0, worth, 0, PEOPLE * TERM_LIMIT);
        }

        long digestOn(long before) {
            long h = terms.digestOn(before);
            h = loans.digestOn(h);
            h = said.digestOn(h);
            h = rules.digestOn(h);
            h = wants.digestOn(h);
            for (int person = 0; person < PEOPLE; person++) {
                h = 31 * h + has[person];
                h = 31 * h + waitsFor[person];
                for (int term = 0; term < terms.size(); term++) {
                    h = 31 * h + worthOf(person, term);
                }
            }
            return sayings.digestOn(h);
        }

        int allTerms() {
            return (1 << terms.size()) - 1;
        }

        boolean isSet(int bits) {
            return (bits & ~allTerms()) == 0;
        }

        boolean isMatter(int bits) {
            return (bits & ~((1 << sayings.size()) - 1)) == 0;
        }

        int addTerm(int kind, int copies, int fee) {
            boolean asTold = kind >= 0 && kind < KINDS && copies >= 1 && copies <= MOST_COPIES
                && fee >= 0 && fee <= MOST_FEE;
            return asTold ? terms.add(kind, copies, fee, 0) : BAD;
        }

        int addLoan(int person, int term, int a, int b) {
            boolean asTold = isPerson(person) && terms.holds(term) && isHour(a) && isHour(b) && a <= b;
            return asTold ? loans.add(person, term, a, b) : BAD;
        }

        int addSaid(int person, int term, int hour) {
            boolean asTold = isPerson(person) && terms.holds(term) && isHour(hour);
            return asTold ? said.add(person, term, hour, 0) : BAD;
        }

        int addRule(int t, int u, int v) {
            boolean asTold = terms.holds(t) && terms.holds(u) && terms.holds(v) && t != u && t != v;
            return asTold ? rules.add(t, u, v, 0) : BAD;
        }

        int addWant(int person, int set, int a, int b) {
            int asked = Integer.bitCount(set);
            boolean asTold = isPerson(person) && isSet(set) && asked >= 1 && asked <= WANT_TERMS
                && isHour(a) && isHour(b) && a <= b && b - a <= WAIT_HOURS;
            return asTold ? wants.add(person, set, a, b) : BAD;
        }

        int addSaying(int set, int used) {
            boolean asTold = isSet(set) && set != 0 && used >= 1 && used <= MOST_USED;
            return asTold ? sayings.add(set, used, 0, 0) : BAD;
        }

        int setWaits(int person, int itsTerms, int others) {
            if (!isPerson(person) || !isSet(itsTerms) || !isSet(others) || (itsTerms & others) != 0) {
                return BAD;
            }
            has[person] = itsTerms;
            waitsFor[person] = others;
            return 1;
        }

        /** What it was. */
        int setWorth(int person, int term, int v) {
            if (!isPerson(person) || !terms.holds(term) || v < 0 || v > MOST_WORTH) {
                return BAD;
            }
            int before = worthOf(person, term);
            worth[person * TERM_LIMIT + term] = v;
            return before;
        }

        int worthOf(int person, int term) {
            return isPerson(person) && terms.holds(term) ? worth[person * TERM_LIMIT + term] : 0;
        }

        int hasNow(int person) {
            return isPerson(person) ? has[person] : 0;
        }

        int waitsNow(int person) {
            return isPerson(person) ? waitsFor[person] : 0;
        }

        boolean isOneAtATime(int term) {
            return Kinds.isOneAtATime(terms.at(term, KIND));
        }

        /** 0 for a TERM that is not there. */
        int mayHave(int term) {
            return terms.holds(term) && isOneAtATime(term) ? 1 : terms.at(term, COPIES);
        }

        int longest(int term) {
            return Kinds.longest(terms.at(term, KIND));
        }

        int price(int term, int hours) {
            return Kinds.price(terms.at(term, KIND), terms.at(term, FEE), hours);
        }

        private int hoursOf(int loan) {
            return loans.at(loan, LAST_HOUR) - loans.at(loan, FIRST_HOUR) + 1;
        }

        private boolean isLentIn(int loan, int term, int hour) {
            return loans.holds(loan) && loans.at(loan, WHAT) == term
                && loans.at(loan, FIRST_HOUR) <= hour && hour <= loans.at(loan, LAST_HOUR);
        }

        /** By the first ones of all LOANS. */
        private int lentIn(int firstLoans, int term, int hour) {
            int lent = 0;
            for (int loan = 0; loan < firstLoans; loan++) {
                if (isLentIn(loan, term, hour)) {
                    lent++;
                }
            }
            return lent;
        }

        int firstWrongLoan() {
            for (int loan = 0; loan < loans.size(); loan++) {
                if (isWrong(loan)) {
                    return loan;
                }
            }
            return NONE;
        }

        /** Hours outside of the LOAN's own need no look: a LOAN ahead of it would be the wrong one there. */
        private boolean isWrong(int loan) {
            int term = loans.at(loan, WHAT);
            if (hoursOf(loan) > longest(term)) {
                return true;
            }
            for (int hour = loans.at(loan, FIRST_HOUR); hour <= loans.at(loan, LAST_HOUR); hour++) {
                if (lentIn(loan + 1, term, hour) > mayHave(term)) {
                    return true;
                }
            }
            return false;
        }

        int termsIn(int hour) {
            int bits = 0;
            for (int term = 0; term < terms.size(); term++) {
                if (lentIn(loans.size(), term, hour) < mayHave(term)) {
                    bits |= 1 << term;
                }
            }
            return bits;
        }

        /** Ten LOANS of 24 hours at twice the hour ahead stay under 2^31. */
        int billOf(int person) {
            int bill = 0;
            for (int loan = 0; loan < loans.size(); loan++) {
                if (loans.at(loan, WHO) == person) {
                    bill += price(loans.at(loan, WHAT), hoursOf(loan));
                }
            }
            return bill;
        }

        int firstWithoutLoan() {
            for (int one = 0; one < said.size(); one++) {
                if (!hadLoan(said.at(one, WHO), said.at(one, WHAT), said.at(one, FIRST_HOUR))) {
                    return one;
                }
            }
            return NONE;
        }

        private boolean hadLoan(int person, int term, int hour) {
            for (int loan = 0; loan < loans.size(); loan++) {
                if (loans.at(loan, WHO) == person && isLentIn(loan, term, hour)) {
                    return true;
                }
            }
            return false;
        }

        int sayingsWith(int taken) {
            int bits = 0;
            for (int saying = 0; saying < sayings.size(); saying++) {
                if ((taken & ~sayings.at(saying, SET)) == 0) {
                    bits |= 1 << saying;
                }
            }
            return bits;
        }

        int usedOf(int matter) {
            int used = 0;
            for (int saying = 0; saying < sayings.size(); saying++) {
                if (hasBit(matter, saying)) {
                    used += sayings.at(saying, USED);
                }
            }
            return used;
        }
    }

    /** ROUND ABOUT and DUMB. */
    private static final class Talk {
        /** The fewest TERMS that say each one; 0: it can not be said. */
        private final int[] least = new int[TERM_LIMIT];
        /** Of each RULE what it says and what that needs, as bits: DUMB asks for them over and over. */
        private final int[] says = new int[RULE_LIMIT];
        private final int[] needs = new int[RULE_LIMIT];
        private int rules = 0;

        /** The fewest way of a TERM never meets it again, so as many rounds as TERMS are enough. */
        void weigh(Counter counter, int set) {
            for (int term = 0; term < TERM_LIMIT; term++) {
                least[term] = hasBit(set, term) ? 1 : 0;
            }
            boolean changed = true;
            for (int round = 0; round < TERM_LIMIT && changed; round++) {
                changed = false;
                for (int rule = 0; rule < counter.rules.size(); rule++) {
                    int term = counter.rules.at(rule, SAID_AS);
                    int sum = fewestBy(counter, rule);
                    if (sum > 0 && isTerm(term) && (least[term] == 0 || sum < least[term])) {
                        least[term] = sum;
                        changed = true;
                    }
                }
            }
        }

        int fewest(int term) {
            return isTerm(term) ? least[term] : 0;
        }

        /** Each part of the fewest way is a fewest way itself, so the way down to one place needs no other. */
        int placeOfRow(Counter counter, int wanted, int place) {
            int term = wanted;
            int ahead = place;
            for (int depth = 0; depth < TERM_LIMIT && fewest(term) > 1; depth++) {
                int rule = firstRule(counter, term);
                int left = counter.rules.at(rule, LEFT);
                if (ahead < fewest(left)) {
                    term = left;
                } else {
                    ahead -= fewest(left);
                    term = counter.rules.at(rule, RIGHT);
                }
            }
            return term;
        }

        private int firstRule(Counter counter, int term) {
            for (int rule = 0; rule < counter.rules.size(); rule++) {
                if (counter.rules.at(rule, SAID_AS) == term && fewestBy(counter, rule) == fewest(term)) {
                    return rule;
                }
            }
            return NONE;
        }

        private int fewestBy(Counter counter, int rule) {
            int left = fewest(counter.rules.at(rule, LEFT));
            int right = fewest(counter.rules.at(rule, RIGHT));
            return left > 0 && right > 0 ? left + right : 0;
        }

        private static boolean isTerm(int term) {
            return term >= 0 && term < TERM_LIMIT;
        }

        int leastKept(Counter counter, int matter) {
            int all = counter.allTerms();
            learn(counter);
            for (int size = 0; size <= TERM_LIMIT; size++) {
                for (int kept = 0; kept <= all; kept++) {
                    if (Integer.bitCount(kept) == size && isDumb(counter, matter, sayableBy(all & ~kept))) {
                        return kept;
                    }
                }
            }
            return all;
        }

        private static boolean isDumb(Counter counter, int matter, int sayable) {
            for (int saying = 0; saying < counter.sayings.size(); saying++) {
                if (hasBit(matter, saying) && (counter.sayings.at(saying, SET) & ~sayable) == 0) {
                    return false;
                }
            }
            return true;
        }

        private void learn(Counter counter) {
            rules = Math.min(counter.rules.size(), RULE_LIMIT);
            for (int rule = 0; rule < rules; rule++) {
                says[rule] = 1 << counter.rules.at(rule, SAID_AS);
                needs[rule] = 1 << counter.rules.at(rule, LEFT) | 1 << counter.rules.at(rule, RIGHT);
            }
        }

        private int sayableBy(int set) {
            int sayable = set;
            int before = NONE;
            for (int round = 0; round <= TERM_LIMIT && sayable != before; round++) {
                before = sayable;
                for (int rule = 0; rule < rules; rule++) {
                    if ((needs[rule] & ~sayable) == 0) {
                        sayable |= says[rule];
                    }
                }
            }
            return sayable;
        }
    }

    /** PLAN and BUY. */
    private static final class Schedule {
        private final int[] mays = new int[TERM_LIMIT];
        private final int[] hours = new int[WANT_LIMIT];
        private final int[] best = new int[WANT_LIMIT];
        private int met = 0;

        /** With one copy more of a TERM, or of none. */
        int mostMet(Counter counter, int extra) {
            for (int term = 0; term < TERM_LIMIT; term++) {
                mays[term] = counter.mayHave(term) + (term == extra ? 1 : 0);
            }
            met = NONE;
            choose(this, counter, 0, 0);
            return met;
        }

        int hourOf(int want) {
            return want >= 0 && want < WANT_LIMIT ? best[want] : HOURS;
        }

        int bestToBuy(Counter counter) {
            int most = mostMet(counter, NONE);
            int bought = NONE;
            for (int term = 0; term < counter.terms.size() && most < counter.wants.size(); term++) {
                boolean canGrow = !counter.isOneAtATime(term) && counter.mayHave(term) < MOST_COPIES;
                int grown = canGrow ? mostMet(counter, term) : 0;
                if (grown > most) {
                    most = grown;
                    bought = term;
                }
            }
            return bought;
        }

        /** Ways come in their order, so only one that meets more may follow the best. */
        private static void choose(Schedule way, Counter counter, int want, int metSoFar) {
            int left = counter.wants.size() - want;
            if (metSoFar + left <= way.met) {
                return;
            }
            if (left <= 0 || want < 0 || want >= WANT_LIMIT) {
                System.arraycopy(way.hours, 0, way.best, 0, WANT_LIMIT);
                way.met = metSoFar;
                return;
            }
            int last = counter.wants.at(want, LAST_HOUR);
            for (int hour = counter.wants.at(want, FIRST_HOUR); hour <= last; hour++) {
                if (way.fits(counter, want, hour)) {
                    way.hours[want] = hour;
                    choose(way, counter, want + 1, metSoFar + 1);
                }
            }
            way.hours[want] = HOURS;
            choose(way, counter, want + 1, metSoFar);
        }

        /** Beside the WANTS ahead of it. */
        private boolean fits(Counter counter, int want, int hour) {
            for (int other = 0; other < want && other < WANT_LIMIT; other++) {
                if (hours[other] == hour && counter.wants.at(other, WHO) == counter.wants.at(want, WHO)) {
                    return false;
                }
            }
            for (int term = 0; term < TERM_LIMIT; term++) {
                if (hasBit(counter.wants.at(want, WHAT), term) && takenIn(counter, want, term, hour) >= mays[term]) {
                    return false;
                }
            }
            return true;
        }

        private int takenIn(Counter counter, int firstWants, int term, int hour) {
            int taken = 0;
            for (int want = 0; want < firstWants && want < WANT_LIMIT; want++) {
                if (hours[want] == hour && hasBit(counter.wants.at(want, WHAT), term)) {
                    taken++;
                }
            }
            return taken;
        }
    }

    /** STUCK and BREAK. */
    private static final class Ring {
        /** What is given back only frees more, so whoever can give back may as well do so at once. */
        static int stuckAfter(Counter counter, int givers) {
            int gone = givers;
            int before = NONE;
            for (int round = 0; round <= PEOPLE && gone != before; round++) {
                before = gone;
                int free = freeTerms(counter, gone);
                for (int person = 0; person < PEOPLE; person++) {
                    if ((counter.waitsNow(person) & ~free) == 0) {
                        gone |= 1 << person;
                    }
                }
            }
            return EVERYBODY & ~gone;
        }

        static int leastBreak(Counter counter) {
            int stuck = stuckAfter(counter, 0);
            for (int size = 0; size <= PEOPLE; size++) {
                for (int givers = 0; givers <= stuck; givers++) {
                    if (Integer.bitCount(givers) == size && (givers & ~stuck) == 0
                        && stuckAfter(counter, givers) == 0) {
                        return givers;
                    }
                }
            }
            return stuck;
        }

        private static int freeTerms(Counter counter, int gone) {
            int free = 0;
            for (int term = 0; term < counter.terms.size(); term++) {
                int had = 0;
                for (int person = 0; person < PEOPLE; person++) {
                    if (!hasBit(gone, person) && hasBit(counter.hasNow(person), term)) {
                        had++;
                    }
                }
                if (had < counter.mayHave(term)) {
                    free |= 1 << term;
                }
            }
            return free;
        }
    }

    /** DEAL. */
    private static final class Deal {
        private final int[] left = new int[TERM_LIMIT];
        private final int[] gets = new int[PEOPLE];
        /** The WORTH that PEOPLE from one on would get if none stood in another's way. */
        private final int[] hope = new int[PEOPLE + 1];
        private int most = 0;

        int mostWorth(Counter counter) {
            for (int term = 0; term < TERM_LIMIT; term++) {
                left[term] = counter.mayHave(term);
            }
            hope[PEOPLE] = 0;
            for (int person = PEOPLE - 1; person >= 0; person--) {
                hope[person] = hope[person + 1] + dearest(counter, person);
            }
            most = 0;
            raise(this, counter, 0, 0);
            settle(this, counter, 0, 0);
            return most;
        }

        int termOf(int person) {
            return isPerson(person) ? gets[person] : TERM_LIMIT;
        }

        private static int dearest(Counter counter, int person) {
            int dearest = 0;
            for (int term = 0; term < TERM_LIMIT; term++) {
                dearest = Math.max(dearest, counter.worthOf(person, term));
            }
            return dearest;
        }

        private boolean isLeft(Counter counter, int person, int term) {
            return left[term] > 0 && counter.worthOf(person, term) > 0;
        }

        /** The most alone: the first way to it is found once the most is known, as it comes late in its order. */
        private static void raise(Deal deal, Counter counter, int person, int sum) {
            deal.most = Math.max(deal.most, sum);
            if (person < 0 || person >= PEOPLE || sum + deal.hope[person] <= deal.most) {
                return;
            }
            for (int term = 0; term < TERM_LIMIT; term++) {
                if (deal.isLeft(counter, person, term)) {
                    deal.left[term]--;
                    raise(deal, counter, person + 1, sum + counter.worthOf(person, term));
                    deal.left[term]++;
                }
            }
            raise(deal, counter, person + 1, sum);
        }

        /** A TERM of no WORTH to one is never tried: none is ahead of it and leaves as much. */
        private static boolean settle(Deal deal, Counter counter, int person, int sum) {
            if (person < 0 || person >= PEOPLE) {
                return sum == deal.most;
            }
            if (sum + deal.hope[person] < deal.most) {
                return false;
            }
            deal.gets[person] = TERM_LIMIT;
            if (settle(deal, counter, person + 1, sum)) {
                return true;
            }
            for (int term = 0; term < TERM_LIMIT; term++) {
                if (deal.isLeft(counter, person, term)) {
                    deal.gets[person] = term;
                    deal.left[term]--;
                    boolean found = settle(deal, counter, person + 1, sum + counter.worthOf(person, term));
                    deal.left[term]++;
                    if (found) {
                        return true;
                    }
                }
            }
            return false;
        }
    }

    /** THE TEXT, and how a COUNTER is told by it. */
    private static final class Text {
        private static final int TERM = 0, RULE = 1, LOAN = 2, WANT = 3, SAYING = 4, WORDS = 5;
        private static final int[] NUMBERS_OF = {3, 3, 4, 4, 2};
        private static final int MOST_NUMBERS = 4, MOST_FIGURES = 3;

        private final int[] bytes = new int[TEXT_LIMIT];
        private final int[] numbers = new int[MOST_NUMBERS];
        private int size = 0;
        /** Where the next TOKEN is looked for; after a FAULT its place. */
        private int at = 0;

        int size() {
            return size;
        }

        int append(long v, int n) {
            if (n < 1 || n > TYPE_LIMIT) {
                return BAD;
            }
            if (size + n > TEXT_LIMIT) {
                return FULL;
            }
            for (int i = n - 1; i >= 0; i--) {
                bytes[size] = (int) (v >> 8 * i & 255);
                size++;
            }
            return size;
        }

        /** How many it had. */
        int empty() {
            int had = size;
            size = 0;
            return had;
        }

        /** A refused ITEM does not end the reading: a FAULT behind it still comes first. */
        int tellTo(Counter counter) {
            int items = 0;
            int refused = NONE;
            at = 0;
            skipBlanks();
            for (int turn = 0; turn < TEXT_LIMIT && at < size; turn++) {
                int word = takeWord();
                if (word == NONE || !takeNumbers(word) || !takeEnd()) {
                    return FIRST_FAULT - at;
                }
                if (refused == NONE && tellItem(counter, word) < 0) {
                    refused = items;
                }
                items++;
                skipBlanks();
            }
            return refused == NONE ? items : FIRST_REFUSED_ITEM - refused;
        }

        private int tellItem(Counter counter, int word) {
            switch (word) {
                case TERM:
                    return counter.addTerm(numbers[0], numbers[1], numbers[2]);
                case RULE:
                    return counter.addRule(numbers[0], numbers[1], numbers[2]);
                case LOAN:
                    return counter.addLoan(numbers[0], numbers[1], numbers[2], numbers[3]);
                case WANT:
                    return counter.addWant(numbers[0], numbers[1], numbers[2], numbers[3]);
                default:
                    return counter.addSaying(numbers[0], numbers[1]);
            }
        }

        private static String spelling(int word) {
            switch (word) {
                case TERM:
                    return "term";
                case RULE:
                    return "rule";
                case LOAN:
                    return "loan";
                case WANT:
                    return "want";
                default:
                    return "saying";
            }
        }

        private int byteAt(int place) {
            return place >= 0 && place < size ? bytes[place] : NONE;
        }

        private boolean isLetter(int place) {
            return byteAt(place) >= 'a' && byteAt(place) <= 'z';
        }

        private boolean isFigure(int place) {
            return byteAt(place) >= '0' && byteAt(place) <= '9';
        }

        private void skipBlanks() {
            while (at < size && byteAt(at) == ' ') {
                at++;
            }
        }

        /** Blanks ahead of it are skipped already. */
        private int takeWord() {
            int end = at;
            while (end < size && isLetter(end)) {
                end++;
            }
            for (int word = 0; word < WORDS; word++) {
                if (isSpelled(spelling(word), end)) {
                    at = end;
                    return word;
                }
            }
            return NONE;
        }

        private boolean isSpelled(String name, int end) {
            if (end - at != name.length()) {
                return false;
            }
            for (int i = 0; i < name.length(); i++) {
                if (byteAt(at + i) != name.charAt(i)) {
                    return false;
                }
            }
            return true;
        }

        private boolean takeNumbers(int word) {
            int due = word >= 0 && word < WORDS ? NUMBERS_OF[word] : 0;
            for (int i = 0; i < due && i < MOST_NUMBERS; i++) {
                numbers[i] = takeNumber();
                if (numbers[i] == NONE) {
                    return false;
                }
            }
            return true;
        }

        private int takeNumber() {
            skipBlanks();
            int end = at;
            int number = 0;
            while (end < size && isFigure(end)) {
                number = 10 * number + byteAt(end) - '0';
                end++;
            }
            if (end == at || end - at > MOST_FIGURES) {
                return NONE;
            }
            at = end;
            return number;
        }

        private boolean takeEnd() {
            skipBlanks();
            if (byteAt(at) != ';') {
                return false;
            }
            at++;
            return true;
        }
    }
}
