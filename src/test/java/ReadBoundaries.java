import java.util.ArrayList;
import java.util.List;

/** Promise 14, read: for each sentence of the document that names a boundary a test of its own. */
public final class ReadBoundaries {
    private static final int NONE = Boundary.NONE, NO = Boundary.NO, FULL = Boundary.FULL;
    private static final int FAULT = -10, REFUSED = -1000;

    private static final Boundary.Call READ = (x, a) -> x.read();
    /** One fine ITEM of each word, behind the TERMS that they need. */
    private static final String[] ITEMS = {"term 1 2 3;", "rule 0 1 2;", "loan 1 2 3 4;", "want 4 3 5 6;", "saying 5 6;"};
    private static final String[] WORDS = {"term", "rule", "loan", "want", "saying"};
    private static final String THREE = "term0 1 1;term0 1 1;term0 1 1;";

    public static void main(String[] args) throws ReflectiveOperationException {
        Boundary.run(ReadBoundaries.class, 14, 14);
    }

    private static int[] n(int... numbers) {
        return numbers;
    }

    private static void due(String call, long got, long due) {
        Boundary.due(call, got, due);
    }

    private static void dueRead(String text, int answer) {
        due("read() of <" + text + ">", Boundary.with(text).read(), answer);
    }

    private static void dueFault(String text, int place) {
        dueRead(text, FAULT - place);
    }

    private static void dueRefused(String text, int item) {
        dueRead(text, REFUSED - item);
    }

    private static Boundary.Sheet sheetOf(int terms, int bytes) {
        Boundary.Sheet s = Boundary.Sheet.ofCommon(terms, 1);
        s.bytes = bytes;
        return s;
    }

    // ---- a TEXT that is empty or has blanks alone

    static void promise14AnEmptyTextHasNoItems() {
        dueRead("", 0);
    }

    static void promise14BlanksAloneHaveNoItems() {
        dueRead(" ", 0);
        dueRead("  ", 0);
        dueRead(" ".repeat(249), 0);
        dueRead(" ".repeat(250), 0);
    }

    static void promise14NoItemsLeaveNothingTold() {
        for (int blanks : n(0, 1)) {
            LentTerms x = Boundary.some();
            x.clear();
            Boundary.with(x, " ".repeat(blanks));
            due("read()", x.read(), 0);
            Boundary.Sheet none = sheetOf(0, blanks);
            none.above = 4;
            none.below = 13;
            due("digest()", x.digest(), none.digest());
        }
    }

    // ---- ITEMS that are read

    static void promise14OneItemOfEachWord() {
        for (String item : ITEMS) {
            dueRead(THREE + item, 4);
        }
        dueRead(ITEMS[0], 1);
    }

    static void promise14AllIsKeptAsTold() {
        String text = "term 0 1 0;term 5 3 9;term 2 2 5;rule 0 1 1;rule 2 1 0;loan 0 0 0 0;loan 4 2 0 23;want 0 1 0 0;"
            + "want 4 7 18 23;saying 1 1;saying 7 9;";
        LentTerms x = Boundary.with(Boundary.some(), "");
        x.clear();
        Boundary.with(x, text);
        due("read()", x.read(), 11);
        Boundary.Sheet s = new Boundary.Sheet();
        s.bytes = text.length();
        s.terms = Boundary.rows(n(0, 1, 0), n(5, 3, 9), n(2, 2, 5));
        s.rules = Boundary.rows(n(0, 1, 1), n(2, 1, 0));
        s.loans = Boundary.rows(n(0, 0, 0, 0), n(4, 2, 0, 23));
        s.wants = Boundary.rows(n(0, 1, 0, 0), n(4, 7, 18, 23));
        s.sayings = Boundary.rows(n(1, 1), n(7, 9));
        s.above = 4;
        s.below = 13;
        due("digest()", x.digest(), s.digest());
    }

    static void promise14AsManyItemsAs250BytesHold() {
        String text = "term0 1 1;".repeat(8) + "rule0 1 1;".repeat(8) + "saying1 1;".repeat(8) + " ".repeat(10);
        due("bytes", text.length(), 250);
        dueRead(text, 24);
    }

    static void promise14OneToThreeFiguresAreOneNumber() {
        dueRead("term 0 1 9;", 1);
        dueRead("term 00 01 09;", 1);
        dueRead("term 000 001 009;", 1);
        LentTerms x = Boundary.with("term 005 003 009;");
        x.read();
        due("KIND 5", x.may(0, 1), 2);
        due("FEE 9", x.cost(0, 2), 13);
        dueRead("term 0 1 10;", REFUSED);
        dueRead("term 0 1 100;", REFUSED);
        dueRead("term 999 999 999;", REFUSED);
        LentTerms y = Boundary.with("term0 1 1;".repeat(8) + "want 0 193 0 0;saying 255 1;");
        due("sets of three figures", y.read(), 10);
        due("about(128)", y.about(128), 1);
    }

    static void promise14FourFiguresAreAFaultAtTheFirst() {
        dueFault("term 0000 1 1;", 5);
        dueFault("term 0 0001 1;", 7);
        dueFault("term 0 1 0001;", 9);
        dueFault("term 0 1 1234", 9);
        dueFault("term 0 1   12345678901234567890;", 11);
        dueFault("term0 1 " + "1".repeat(242), 8);
        dueFault("1234", 0);
        dueFault(THREE + "saying 1 0009;", 39);
    }

    static void promise14NoBlanksAreNeededBetweenOthers() {
        dueRead("term0 1 1;term0 1 1;term0 1 1;rule0 1 2;loan0 0 0 0;want0 1 0 0;saying1 1;", 7);
    }

    static void promise14BlanksAreNeededBetweenTwoWords() {
        dueFault("termterm 0 1 1;", 0);
        dueFault("term term 0 1 1;", 5);
    }

    static void promise14BlanksAreNeededBetweenTwoNumbers() {
        dueFault("term 01 1;", 9);
        dueRead("term 0 1 1;", 1);
        dueFault("term 0 11;", 9);
    }

    static void promise14AnyNumberOfBlanks() {
        dueRead("  term  0  1  1  ;  term  0  1  1  ;  ", 2);
        for (int place = 0; place <= 5; place++) {
            String[] parts = {"", "term", "0", "1", "1", ";"};
            StringBuilder text = new StringBuilder();
            for (int i = 0; i <= 5; i++) {
                text.append(parts[i]).append(i == place ? " ".repeat(239) : i > 0 && i < 4 ? " " : "");
            }
            due("bytes", text.length() <= 250 && text.length() >= 246 ? 1 : 0, 1);
            dueRead(text.toString(), 1);
        }
    }

    static void promise14AllOf250BytesAreRead() {
        String last = "term0 1 1;" + " ".repeat(230) + "term5 3 9;";
        due("bytes", last.length(), 250);
        dueRead(last, 2);
        dueFault(last.substring(0, 249) + "x", 249);
        dueFault(last.substring(0, 249) + " ", 250);
    }

    // ---- the FAULT

    /** TOKENS of an ITEM one by one: what else comes in the place of one is a FAULT there. */
    private static List<String> tokensOf(String item) {
        List<String> tokens = new ArrayList<>(List.of(item.substring(0, item.length() - 1).split(" ")));
        tokens.add(";");
        return tokens;
    }

    private static String joined(List<String> tokens, int from, int to) {
        return String.join(" ", tokens.subList(from, to));
    }

    static void promise14AnotherTokenInAnyPlaceIsAFaultThere() {
        String[] others = {"term", "saying", "7", "1", "123", ";", "nothing", "0000", "+", "\u00ff"};
        for (String item : ITEMS) {
            List<String> tokens = tokensOf(item);
            for (int i = 0; i < tokens.size(); i++) {
                String ahead = THREE + (i == 0 ? "" : joined(tokens, 0, i) + " ");
                for (String other : others) {
                    boolean fits = i == 0 ? other.equals("term") || other.equals("saying")
                        : tokens.get(i).equals(";") ? other.equals(";") : other.matches("[0-9]{1,3}");
                    if (!fits) {
                        dueFault(ahead + other, ahead.length());
                        dueFault(ahead + other + " " + joined(tokens, i, tokens.size()), ahead.length());
                        dueFault(ahead + "   " + other + ";", ahead.length() + 3);
                    }
                }
            }
        }
    }

    static void promise14ANumberTooFewOrTooManyIsAFault() {
        for (int word = 0; word < 5; word++) {
            List<String> tokens = tokensOf(ITEMS[word]);
            String few = joined(tokens, 0, tokens.size() - 2) + " ";
            dueFault(few + ";", few.length());
            String many = joined(tokens, 0, tokens.size() - 1) + " ";
            dueFault(many + "1;", many.length());
            dueFault(many + ";;", many.length() + 1);
        }
    }

    static void promise14AWordThatIsNone() {
        for (String word : WORDS) {
            dueFault(word.substring(0, word.length() - 1) + " 0 1 1;", 0);
            dueFault(word.substring(1) + " 0 1 1;", 0);
            dueFault(word + "s 0 1 1;", 0);
            dueFault("a" + word + " 0 1 1;", 0);
            dueFault(word.substring(0, 1) + " 0 1 1;", 0);
            dueFault(word.substring(0, word.length() - 1) + "z 0 1 1;", 0);
            dueFault("z" + word.substring(1) + " 0 1 1;", 0);
            dueFault(word.substring(0, 2) + " " + word.substring(2) + " 0 1 1;", 0);
            dueFault("   " + word.toUpperCase() + " 0 1 1;", 3);
            dueFault(word.substring(0, 1).toUpperCase() + word.substring(1) + " 0 1 1;", 0);
        }
        dueFault("a;", 0);
        dueFault("z".repeat(250), 0);
        dueFault("term 0 1 1; said 0 0 0;", 12);
    }

    static void promise14AWordGoesAsFarAsLettersDo() {
        for (char letter = 'a'; letter <= 'z'; letter++) {
            dueFault("term" + letter + " 0 1 1;", 0);
            dueFault("term" + letter, 0);
            dueFault(letter + "term 0 1 1;", 0);
            dueFault(String.valueOf(letter), 0);
            dueFault("term 0 1 1; " + letter + letter, 12);
            dueFault("term 0" + letter + " 1 1;", 6);
            dueFault("term " + letter + "0 1 1;", 5);
        }
    }

    static void promise14ANumberGoesAsFarAsFiguresDo() {
        for (char figure = '0'; figure <= '9'; figure++) {
            dueFault("term 000" + figure + " 1 1;", 5);
            dueFault("term " + figure + "000 1 1;", 5);
            dueFault("term " + figure, 6);
            dueFault(figure + "term 0 1 1;", 0);
            dueRead("term 0 1 00" + figure + ";", 1);
            dueRefused("term 0 1 " + (figure == '0' ? 1 : figure - '0') + "00;", 0);
        }
    }

    static void promise14AWordThatIsBrokenByABadByteIsNone() {
        dueFault("te\u0000rm 0 1 1;", 0);
        dueFault("ter", 0);
        dueFault("term\u0000 0 1 1;", 4);
    }

    static void promise14AByteThatBeginsNone() {
        int[] none = {0, 1, 9, 10, 13, 31, 33, 47, 58, 60, 64, 65, 90, 91, 95, 96, 123, 127, 128, 160, 187, 225, 255};
        for (int b : none) {
            String sign = String.valueOf((char) b);
            dueFault(sign, 0);
            dueFault(" " + sign + "term 0 1 1;", 1);
            dueFault("term" + sign + "0 1 1;", 4);
            dueFault("term 0" + sign + "1 1;", 6);
            dueFault("term 0 1 " + sign + "1;", 9);
            dueFault("term 0 1 1" + sign + ";", 10);
            dueFault("term 0 1 1;" + sign, 11);
        }
    }

    static void promise14EachOtherByteBeginsOne() {
        for (int b = 0; b < 256; b++) {
            boolean begins = b >= 'a' && b <= 'z' || b >= '0' && b <= '9' || b == ';' || b == ' ';
            boolean stands = b == ' ';
            int due = stands ? 1 : FAULT - 11;
            due("the byte " + b + (begins ? " out of place" : ""), Boundary.with("term 0 1 1;" + (char) b).read(), due);
            boolean figure = b >= '0' && b <= '9';
            int number = figure ? b == '0' ? 1 : b <= '5' ? 1 : REFUSED : b == ' ' ? FAULT - 10 : FAULT - 5;
            due("the byte " + b + " as a KIND", Boundary.with("term " + (char) b + " 1 1;").read(), number);
        }
    }

    static void promise14ItEndsTooEarlyBehindAnyToken() {
        for (String item : ITEMS) {
            List<String> tokens = tokensOf(item);
            for (int i = 1; i < tokens.size(); i++) {
                String text = joined(tokens, 0, i);
                dueFault(text, text.length());
                dueFault(text + " ", text.length() + 1);
                dueFault(text + "   ", text.length() + 3);
                dueFault(THREE + text, THREE.length() + text.length());
                dueFault("  " + text, text.length() + 2);
            }
        }
    }

    static void promise14TheLeastAndTheLargestFault() {
        dueRead(";", -10);
        dueRead("x", -10);
        dueRead(" x", -11);
        dueRead(" ".repeat(249) + ";", -259);
        dueRead(" ".repeat(248) + ";x", -258);
        dueRead("term" + " ".repeat(245), -259);
        dueRead("term" + " ".repeat(246), -260);
        dueRead("term 0 1 " + " ".repeat(240) + "1", -260);
    }

    static void promise14TheFirstFaultOfSeveral() {
        dueFault("term 0 x y;", 7);
        dueFault("term 0 1 1; ; x", 12);
        dueFault("loan 0 0; 0;", 8);
    }

    static void promise14AFaultChangesNothingNotEvenStatus() {
        String[] texts = {"x", ";", "term", "term 0 1 1;term", "term 0 1 1;;", "rule 0 0 0 0;", "term 0 1 1234;"};
        int[] faults = {0, 0, 4, 15, 11, 11, 9};
        for (int i = 0; i < texts.length; i++) {
            String text = texts[i];
            Boundary.changesNothing(() -> retyped(Boundary.some(), text), "read of <" + text + ">", READ, n(),
                FAULT - faults[i], Boundary.AS_NOTHING);
            Boundary.changesNothing(() -> retyped(Boundary.full(), text), "read of <" + text + ">", READ, n(),
                FAULT - faults[i], Boundary.AS_NOTHING);
        }
    }

    private static LentTerms retyped(LentTerms x, String text) {
        x.clear();
        return Boundary.with(x, text);
    }

    static void promise14AFaultIsAheadOfAnItemThatIsRefused() {
        dueFault("term 6 1 1;x", 11);
        dueFault("rule 0 0 0;term", 15);
        dueFault("term 0 1 1;term 0 4 1;term 0 1 1", 32);
    }

    // ---- ITEMS that are refused

    static void promise14TheFirstItemThatIsRefused() {
        dueRefused("term 6 1 1;", 0);
        dueRefused("term 6 1 1;term 6 1 1;", 0);
        dueRefused("term 0 1 1;term 6 1 1;term 0 0 0;", 1);
        dueRefused(THREE + "rule 0 1 2;rule 0 0 0;", 4);
    }

    static void promise14TheLastOfAsManyItemsAs250BytesHold() {
        String text = "term0 1 1;".repeat(8) + "rule0 1 1;".repeat(8) + "saying1 1;".repeat(8);
        dueRefused(text + "rule0 1 1;", 24);
        dueRefused(text + "saying0 1;", 24);
    }

    static void promise14ATermIsRefusedAsItsCallIs() {
        dueRead("term 0 1 0;term 5 3 9;", 2);
        dueRefused("term 6 1 1;", 0);
        dueRefused("term 0 0 1;", 0);
        dueRefused("term 0 4 1;", 0);
        dueRefused("term 0 1 10;", 0);
        dueRefused("term 0 1 999;", 0);
    }

    static void promise14ARuleIsRefusedAsItsCallIs() {
        dueRead(THREE + "rule 0 2 2;rule 2 0 1;", 5);
        dueRefused(THREE + "rule 0 0 1;", 3);
        dueRefused(THREE + "rule 0 1 0;", 3);
        dueRefused(THREE + "rule 3 1 2;", 3);
        dueRefused(THREE + "rule 0 3 1;", 3);
        dueRefused(THREE + "rule 0 1 3;", 3);
    }

    static void promise14ALoanIsRefusedAsItsCallIs() {
        dueRead(THREE + "loan 0 0 0 0;loan 4 2 23 23;loan 4 2 0 23;", 6);
        dueRefused(THREE + "loan 5 0 0 0;", 3);
        dueRefused(THREE + "loan 0 3 0 0;", 3);
        dueRefused(THREE + "loan 0 0 1 0;", 3);
        dueRefused(THREE + "loan 0 0 23 24;", 3);
        dueRefused(THREE + "loan 0 0 24 24;", 3);
    }

    static void promise14AWantIsRefusedAsItsCallIs() {
        dueRead(THREE + "want 0 1 0 0;want 4 7 18 23;", 5);
        dueRefused(THREE + "want 5 1 0 0;", 3);
        dueRefused(THREE + "want 0 0 0 0;", 3);
        dueRefused(THREE + "want 0 8 0 0;", 3);
        dueRefused(THREE + "term0 1 1;want 0 15 0 0;", 4);
        dueRefused(THREE + "want 0 1 1 0;", 3);
        dueRefused(THREE + "want 0 1 0 6;", 3);
        dueRefused(THREE + "want 0 1 19 24;", 3);
    }

    static void promise14ASayingIsRefusedAsItsCallIs() {
        dueRead(THREE + "saying 1 1;saying 7 9;", 5);
        dueRefused(THREE + "saying 0 1;", 3);
        dueRefused(THREE + "saying 8 1;", 3);
        dueRefused(THREE + "saying 1 0;", 3);
        dueRefused(THREE + "saying 1 10;", 3);
    }

    static void promise14AFullListRefusesOneMore() {
        String term = "term0 1 1;", two = term + term;
        dueRead(term.repeat(8), 8);
        dueRefused(term.repeat(9), 8);
        dueRead(two + "rule0 1 1;".repeat(8), 10);
        dueRefused(two + "rule0 1 1;".repeat(9), 10);
        dueRead(two + "loan0 0 0 0;".repeat(10), 12);
        dueRefused(two + "loan0 0 0 0;".repeat(11), 12);
        dueRead(two + "want0 1 0 0;".repeat(5), 7);
        dueRefused(two + "want0 1 0 0;".repeat(6), 7);
        dueRead(two + "saying1 1;".repeat(8), 10);
        dueRefused(two + "saying1 1;".repeat(9), 10);
    }

    static void promise14ItemsAreToldInTheirOrder() {
        dueRefused("rule 0 1 2;" + THREE, 0);
        dueRefused("term 0 1 1;loan 0 1 0 0;term 0 1 1;", 1);
        dueRefused("term 0 1 1;saying 2 1;term 0 1 1;", 1);
        dueRead("term 0 1 1;saying 1 1;term 0 1 1;saying 2 1;", 4);
    }

    static void promise14WhatStoodBeforeIsNoneOfIt() {
        LentTerms x = Boundary.ofCommon(8, 1);
        Boundary.with(x, "rule 0 1 2;");
        due("TERMS that stood before", x.read(), REFUSED);
        due("count(0)", x.count(0), 8);
        LentTerms full = retyped(Boundary.full(), "term0 1 1;".repeat(8) + "rule0 1 1;".repeat(8) + "saying1 1;".repeat(8));
        due("lists that were full", full.read(), 24);
        due("count(0)", full.count(0), 8);
    }

    static void promise14AnItemThatIsRefusedChangesNothingNotEvenStatus() {
        String[] texts = {"term 6 1 1;", "rule 0 1 2;", THREE + "loan 0 0 1 0;", "term0 1 1;".repeat(9)};
        int[] refused = {0, 0, 3, 8};
        for (int i = 0; i < texts.length; i++) {
            String text = texts[i];
            Boundary.changesNothing(() -> retyped(Boundary.some(), text), "read of <" + text + ">", READ, n(),
                REFUSED - refused[i], Boundary.AS_NOTHING);
            Boundary.changesNothing(() -> retyped(Boundary.full(), text), "read of <" + text + ">", READ, n(),
                REFUSED - refused[i], Boundary.AS_NOTHING);
        }
    }

    static void promise14WhatIsRefusedLeavesNothingForTheNext() {
        LentTerms x = retyped(Boundary.some(), THREE + "loan 0 0 0 0;rule 0 1 2;want 0 1 0 0;saying 1 1;rule 0 0 0;");
        due("read()", x.read(), REFUSED - 7);
        retyped(x, "term 0 1 1;");
        due("read()", x.read(), 1);
        Boundary.Sheet one = sheetOf(1, 11);
        one.above = 4;
        one.below = 13;
        due("digest()", x.digest(), one.digest());
    }

    static void promise14WhatWasReadStaysIfTheNextIsRefused() {
        LentTerms x = Boundary.with(THREE + "loan 4 2 0 23;saying 7 9;");
        due("read()", x.read(), 5);
        Boundary.Sheet s = sheetOf(3, 0);
        s.loans = Boundary.rows(n(4, 2, 0, 23));
        s.sayings = Boundary.rows(n(7, 9));
        String[] texts = {"term 0 1 1;rule 0 0 0;", "term 0 1 1;term", "term 6 1 1;"};
        int[] answers = {REFUSED - 1, FAULT - 15, REFUSED};
        for (int i = 0; i < texts.length; i++) {
            retyped(x, texts[i]);
            due("read() of <" + texts[i] + ">", x.read(), answers[i]);
            s.bytes = texts[i].length();
            due("digest()", x.digest(), s.digest());
        }
    }

    // ---- what is told anew, and what stays

    static void promise14NothingElseIsToldHoweverOftenItIsRead() {
        LentTerms x = new LentTerms();
        Boundary.with(x, THREE);
        for (int time = 0; time < 5; time++) {
            due("read()", x.read(), 3);
            due("digest()", x.digest(), sheetOf(3, THREE.length()).digest());
            due("loan", x.loan(0, 1, 2, 3), 0);
            due("said", x.said(0, 1, 2), 0);
            due("rule", x.rule(0, 1, 2), 0);
            due("want", x.want(0, 1, 2, 3), 0);
            due("waits", x.waits(4, 1, 2) + x.waits(0, 4, 0), 2);
            due("worth", x.worth(0, 0, 1) + x.worth(4, 2, 99), 0);
            due("saying", x.saying(1, 1), 0);
            due("a fourth TERM", x.term(5, 3, 9), 3);
        }
    }

    static void promise14NothingElseIsTold() {
        LentTerms x = retyped(Boundary.full(), THREE);
        due("read()", x.read(), 3);
        Boundary.Sheet three = sheetOf(3, THREE.length());
        three.above = 2;
        three.below = 9;
        due("digest()", x.digest(), three.digest());
        due("judge()", x.judge(), NONE);
        due("stuck(0)", x.stuck(0), 0);
        due("deal(NONE)", x.deal(NONE), 0);
    }

    static void promise14TheTextStaysAndIsReadAgain() {
        LentTerms x = Boundary.with("term 0 1 1;");
        due("read()", x.read(), 1);
        due("count(6)", x.count(6), 11);
        due("read() again", x.read(), 1);
        due("count(0)", x.count(0), 1);
        Boundary.with(x, "term 0 1 1;");
        due("read() of both", x.read(), 2);
        due("clear()", x.clear(), 22);
    }

    static void promise14TheFractionStays() {
        LentTerms x = retyped(Boundary.full(), THREE);
        x.read();
        due("part(0)", x.part(0), 2);
        due("part(1)", x.part(1), 9);
    }

    static void promise14TheImagesStay() {
        LentTerms x = Boundary.ofCommon(2, 1);
        x.image(0);
        long before = x.digest();
        Boundary.with(x, THREE);
        due("read()", x.read(), 3);
        due("from(1)", x.from(1), NO);
        x.clear();
        due("from(0)", x.from(0), 1);
        due("digest()", x.digest(), before);
    }

    static void promise14StatusStays() {
        LentTerms x = Boundary.ofCommon(8, 1);
        x.term(0, 1, 1);
        x.term(6, 1, 1);
        x.from(0);
        Boundary.with(x, THREE);
        due("read()", x.read(), 3);
        for (int what = 0; what < 3; what++) {
            due("status(" + what + ")", x.status(what), 1);
        }
        for (int i = 0; i < 5; i++) {
            due("a TERM behind those that were read", x.term(0, 1, 1), 3 + i);
        }
        due("a ninth", x.term(0, 1, 1), FULL);
    }
}
