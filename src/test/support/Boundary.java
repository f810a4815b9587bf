import java.lang.reflect.InvocationTargetException;
import java.lang.reflect.Method;
import java.util.ArrayList;
import java.util.Arrays;
import java.util.Comparator;
import java.util.List;
import java.util.function.Supplier;

/** What the boundary tests share: running them by name, answers that are due, refusals, and objects to begin with. */
final class Boundary {
    static final int MIN = Integer.MIN_VALUE, MAX = Integer.MAX_VALUE;
    static final int NONE = -1, BAD = -2, NO = -3, FULL = -4, BAD_TEN = -10, NOT_SO_MANY = -5;

    /** Places of STATUS. */
    static final int AS_BAD = 0, AS_NO = 1, AS_FULL = 2, AS_NOTHING = -1;

    private static String test = "";
    private static int checks = 0, wrong = 0;

    private Boundary() {
    }

    interface Call {
        long on(LentTerms x, int[] numbers);
    }

    /** All methods whose names begin with promise; each promise from first to last must have one. */
    static void run(Class<?> tests, int first, int last) throws ReflectiveOperationException {
        Method[] all = Arrays.stream(tests.getDeclaredMethods()).filter(m -> m.getName().startsWith("promise"))
            .sorted(Comparator.comparing(Method::getName)).toArray(Method[]::new);
        for (int promise = first; promise <= last; promise++) {
            String name = String.format("promise%02d", promise);
            test = name;
            due("has a test", Arrays.stream(all).anyMatch(m -> m.getName().startsWith(name)) ? 1 : 0, 1);
        }
        for (Method one : all) {
            test = one.getName();
            runOne(one);
        }
        System.out.println(all.length + " tests, " + checks + " checks, " + wrong + " wrong");
        if (wrong != 0) {
            System.exit(1);
        }
    }

    private static void runOne(Method one) throws ReflectiveOperationException {
        try {
            one.setAccessible(true);
            one.invoke(null);
        } catch (InvocationTargetException e) {
            wrong++;
            System.out.println(test + ": threw " + e.getCause());
        }
    }

    static void due(String call, long got, long due) {
        checks++;
        if (got != due) {
            wrong++;
            System.out.println(test + ": " + call + " answered " + got + ", due is " + due);
        }
    }

    static int[] n(int... numbers) {
        return numbers;
    }

    static int[][] rows(int[]... rows) {
        return rows;
    }

    private static int[] statuses(LentTerms x) {
        return new int[] {x.status(0), x.status(1), x.status(2)};
    }

    private static void dueStatus(String name, LentTerms x, int[] before, int counted) {
        for (int what = 0; what < 3; what++) {
            due("status(" + what + ") after " + name, x.status(what), before[what] + (what == counted ? 1 : 0));
        }
    }

    /** The answer, what STATUS counts, and that nothing else has changed: an object made alike still answers alike. */
    static void changesNothing(Supplier<LentTerms> made, String name, Call call, int[] numbers, long answer, int counted) {
        LentTerms x = made.get(), twin = made.get();
        int[] before = statuses(x);
        String told = name + Arrays.toString(numbers);
        due(told, call.on(x, numbers), answer);
        dueStatus(told, x, before, counted);
        due("all but STATUS after " + told + " is as before", alike(x, twin), 1);
    }

    static void refused(Supplier<LentTerms> made, String name, Call call, int[] numbers, int answer) {
        int counted = answer == NO ? AS_NO : answer == FULL ? AS_FULL : AS_BAD;
        changesNothing(made, name, call, numbers, answer, counted);
    }

    /** Each of the values in the place of one number, the others being fine. */
    static void eachRefused(Supplier<LentTerms> made, String name, Call call, int[] fine, int place, int[] values, int answer) {
        for (int value : values) {
            int[] numbers = fine.clone();
            numbers[place] = value;
            refused(made, name, call, numbers, answer);
        }
    }

    /** Each of the values in the place of one number is taken, on a new object each. */
    static void eachTaken(Supplier<LentTerms> made, String name, Call call, int[] fine, int place, int[] values, long answer) {
        for (int value : values) {
            int[] numbers = fine.clone();
            numbers[place] = value;
            taken(made.get(), name, call, numbers, answer);
        }
    }

    static void taken(LentTerms x, String name, Call call, int[] numbers, long answer) {
        int[] before = statuses(x);
        String told = name + Arrays.toString(numbers);
        due(told, call.on(x, numbers), answer);
        dueStatus(told, x, before, AS_NOTHING);
    }

    static int alike(LentTerms x, LentTerms y) {
        return portrait(x).equals(portrait(y)) ? 1 : 0;
    }

    /** All that can be asked but STATUS; the questions that change the object come last. */
    static List<Long> portrait(LentTerms x) {
        List<Long> all = new ArrayList<>();
        all.add(x.digest());
        for (int i = 0; i < 24; i++) {
            all.add((long) x.in(i));
        }
        for (int i = 0; i < x.count(0); i++) {
            all.add((long) x.may(i, 0) * 100 + x.may(i, 1));
            all.add((long) x.cost(i, 3));
            all.add((long) x.roundAbout(i, (1 << x.count(0)) - 1 & 0x55, -1));
        }
        for (int i = -1; i < 5; i++) {
            all.add((long) x.deal(i));
            all.add(i < 0 ? 0L : x.bill(i));
            all.add(i < x.count(4) ? (long) x.plan(i) : 0L);
        }
        all.addAll(List.of((long) x.wrong(), (long) x.judge(), (long) x.buy(), (long) x.stuck(0), (long) x.stuck(1),
            (long) x.about(0), (long) x.dumb((1 << x.count(5)) - 1), x.part(0), x.part(1)));
        for (int i = 0; i < 2; i++) {
            all.add((long) x.from(i));
            all.add(x.digest());
        }
        all.add((long) x.read());
        all.add(x.digest());
        all.add((long) x.clear());
        all.add((long) x.type(';', 1));
        all.add((long) x.read());
        return all;
    }

    static int typed(LentTerms x, String text) {
        int size = x.count(6);
        for (int i = 0; i < text.length(); i++) {
            size = x.type(text.charAt(i), 1);
        }
        return size;
    }

    /** Typed by eight bytes, so that a long text needs few calls. */
    static LentTerms with(String text) {
        return with(new LentTerms(), text);
    }

    static LentTerms with(LentTerms x, String text) {
        for (int at = 0; at < text.length(); at += 8) {
            int end = Math.min(text.length(), at + 8);
            long v = 0;
            for (int i = at; i < end; i++) {
                v = v << 8 | text.charAt(i) & 255;
            }
            x.type(v, end - at);
        }
        return x;
    }

    static LentTerms ofTerms(int many, int kind, int copies, int fee) {
        LentTerms x = new LentTerms();
        for (int i = 0; i < many; i++) {
            x.term(kind, copies, fee);
        }
        return x;
    }

    static LentTerms ofCommon(int many, int copies) {
        return ofTerms(many, 0, copies, 1);
    }

    /** TERMS 0 .. 5 are one of each KIND. */
    static LentTerms ofEachKind(int copies, int fee) {
        LentTerms x = new LentTerms();
        for (int kind = 0; kind < 6; kind++) {
            x.term(kind, copies, fee);
        }
        return x;
    }

    /** Some of everything, no list empty, none full; IMAGE 0 is kept, IMAGE 1 is not. */
    static LentTerms some() {
        LentTerms x = new LentTerms();
        x.term(1, 2, 3);
        x.saying(1, 4);
        x.worth(2, 0, 9);
        x.image(0);
        x.term(0, 2, 5);
        x.term(2, 1, 4);
        x.term(5, 3, 7);
        x.loan(0, 0, 3, 4);
        x.loan(1, 2, 4, 9);
        x.loan(2, 2, 9, 9);
        x.said(1, 2, 5);
        x.said(4, 0, 4);
        x.rule(0, 1, 2);
        x.rule(1, 2, 2);
        x.want(0, 3, 4, 6);
        x.want(1, 4, 5, 5);
        x.want(2, 4, 5, 5);
        x.waits(0, 4, 8);
        x.waits(1, 8, 4);
        x.worth(0, 1, 12);
        x.worth(3, 3, 99);
        x.saying(3, 9);
        x.saying(12, 2);
        x.odds(1, 0);
        return with(x, "term 4 2 1; saying 1 7;");
    }

    /** Every list is full: 8 TERMS, 10 LOANS, 10 SAID, 8 RULES, 5 WANTS, 8 SAYINGS, 250 bytes, both IMAGES. */
    static LentTerms full() {
        LentTerms x = new LentTerms();
        x.image(1);
        for (int i = 0; i < 8; i++) {
            x.term(i % 6, 1 + i % 3, 9 - i);
        }
        for (int i = 0; i < 8; i++) {
            x.rule(i, (i + 1) % 8, (i + 3) % 8);
            x.saying(1 << i | 1, 1 + i);
        }
        x.image(0);
        for (int i = 0; i < 10; i++) {
            x.loan(i % 5, i % 8, i, i + 2);
            x.said(i % 5, i % 8, i + 1);
        }
        for (int p = 0; p < 5; p++) {
            x.want(p, 1 << p | 128, 10, 12);
            x.waits(p, 1 << p, 1 << (p + 1) % 5);
            for (int t = 0; t < 8; t++) {
                x.worth(p, t, 10 * p + t);
            }
        }
        x.odds(1, 7);
        return with(x, "term 3 2 1;" + " ".repeat(239));
    }

    /** What is told, row by row, and the digest that the document makes of it. */
    static final class Sheet {
        int[][] terms = {}, loans = {}, said = {}, rules = {}, wants = {}, sayings = {};
        int[] has = new int[5], waitsFor = new int[5];
        int[][] worth = new int[5][8];
        int bytes = 0, above = 0, below = 1;

        static Sheet ofCommon(int many, int copies) {
            Sheet s = new Sheet();
            s.terms = new int[many][];
            Arrays.fill(s.terms, n(0, copies, 1));
            return s;
        }

        long digest() {
            List<Integer> all = new ArrayList<>(List.of(terms.length, loans.length, said.length, rules.length, wants.length,
                sayings.length, bytes));
            for (int[][] list : List.of(terms, loans, said, rules, wants)) {
                addRows(all, list);
            }
            for (int p = 0; p < 5; p++) {
                all.add(has[p]);
                all.add(waitsFor[p]);
                for (int t = 0; t < terms.length; t++) {
                    all.add(worth[p][t]);
                }
            }
            addRows(all, sayings);
            all.add(above);
            all.add(below);
            long h = 719;
            for (int v : all) {
                h = 31 * h + v;
            }
            return h;
        }

        private static void addRows(List<Integer> all, int[][] list) {
            for (int[] row : list) {
                for (int v : row) {
                    all.add(v);
                }
            }
        }
    }
}
