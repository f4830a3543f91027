/** Promises 1 to 4: a new object, the tape, houses, what is told. */
public final class HousesTest {
    private static final int NONE = ChiefGrades.NONE, BAD = ChiefGrades.BAD;
    private static final int STATE = ChiefGrades.STATE, FULL = ChiefGrades.FULL;

    public static void main(String[] args) {
        aNewObject();
        tape();
        faults();
        clauses();
        openOnes();
        housesByNumber();
        fullAheadOfAll();
        tests();
        tensAndYears();
        andOrNot();
        moreAndLess();
        told();
        Check.end("HousesTest");
    }

    private static void aNewObject() {
        ChiefGrades x = new ChiefGrades();
        for (int i = 0; i < 6; i++) Check.due("1: count " + i, x.count(i), 0);
        int[] told = {10, 0, 10, 0, 50, 50};
        for (int i = 0; i < 6; i++) Check.due("1: told " + i, x.told(i), told[i]);
        Check.due("1: undo", x.undo(), STATE);
        Check.due("1: trace", x.trace(0), NONE);
        Check.due("1: of", x.of(0, 0), -1001);
        Check.due("1: by", x.by(0, 0), NONE);
        Check.due("1: looked", x.looked(), -5);
        Check.due("1: nets", x.nets(-1), 0);
        Check.due("1: swap", x.swap(1), -5);
        Check.due("1: clear", x.clear(), 0);
    }

    private static void tape() {
        ChiefGrades x = new ChiefGrades();
        Check.due("2: least sign", x.feed(0), 1);
        Check.due("2: greatest sign", x.feed(127), 2);
        Check.due("2: -1", x.feed(-1), BAD);
        Check.due("2: 128", x.feed(128), BAD);
        Check.due("2: least int", x.feed(Integer.MIN_VALUE), BAD);
        Check.due("2: greatest int", x.feed(Integer.MAX_VALUE), BAD);
        Check.due("2: refused ones are not there", x.count(4), 2);
        for (int i = 3; i <= 100; i++) Check.due("2: sign " + i, x.feed('m'), i);
        Check.due("2: the 101st", x.feed('m'), FULL);
        Check.due("2: BAD ahead of FULL", x.feed(128), BAD);
        Check.due("2: 100 stay", x.count(4), 100);
    }

    private static void fault(String text, int place) {
        ChiefGrades x = new ChiefGrades();
        Check.house(x, "five 3;one 4;pay 7");
        Check.due("3: fault of '" + text + "'", Check.house(x, text), -10 - place);
        Check.due("3: tape is empty after '" + text + "'", x.count(4), 0);
        Check.due("3: no house more after '" + text + "'", x.count(2), 1);
        Check.due("3: the held one's five", x.told(0), 3);
        Check.due("3: the held one's one", x.told(1), 4);
        Check.due("3: the held one's pay", x.told(2), 7);
    }

    private static void faults() {
        fault("", 0);
        fault("x", 0);
        fault(";", 0);
        fault(" five 1", 0);
        fault("More 1 w=1", 0);
        fault("fine 1", 2);
        fault("mere 1 w=1", 1);
        fault("lass 1 w=1", 1);
        fault("ore 1", 1);
        fault("pat 1", 2);
        fault("five", 4);
        fault("five ", 5);
        fault("five5", 4);
        fault("five  5", 5);
        fault("five x", 5);
        fault("five 05", 6);
        fault("five 00", 6);
        fault("five 123", 7);
        fault("five 1 ", 6);
        fault("five 1 w=1", 6);
        fault("five -1", 5);
        fault("one 1;;", 6);
        fault("one 1;", 6);
        fault("one 1; pay 1", 6);
        fault("one 1,pay 1", 5);
        fault("more", 4);
        fault("more 1", 6);
        fault("more 1;", 6);
        fault("more 1 ", 7);
        fault("more 1w=1", 6);
        fault("more 1  w=1", 7);
        fault("more 123 w=1", 7);
        fault("more 01 w=1", 6);
        fault("more 1 z=1", 7);
        fault("more 1 W=1", 7);
        fault("more 1 w", 8);
        fault("more 1 w1", 8);
        fault("more 1 w!1", 8);
        fault("more 1 w==1", 9);
        fault("more 1 w<=1", 9);
        fault("more 1 w=", 9);
        fault("more 1 w=x", 9);
        fault("more 1 w=01", 10);
        fault("more 1 w=123", 11);
        fault("more 1 w=1 ", 10);
        fault("more 1 w=1&", 11);
        fault("more 1 w=1|", 11);
        fault("more 1 w=1&&c=1", 11);
        fault("more 1 w=1|&c=1", 11);
        fault("more 1 w=1)", 10);
        fault("more 1 w=1!", 10);
        fault("more 1 w=1(c=1)", 10);
        fault("more 1 w=1w=2", 10);
        fault("more 1 (w=1", 11);
        fault("more 1 (w=1;", 11);
        fault("more 1 ()", 8);
        fault("more 1 (w=1))", 12);
        fault("more 1 !", 8);
        fault("more 1 !)", 8);
        fault("more 1 !&w=1", 8);
        fault("less 1 k=1;less 2", 17);
        fault("less 1 \u0000=1", 7);
        fault("one 1\u0000", 5);
    }

    private static void clauses() {
        String nine = "one 1;one 2;one 3;one 4;one 5;one 6;one 7;one 8;one 9;";
        ChiefGrades x = new ChiefGrades();
        Check.due("3: ten clauses", Check.house(x, nine + "one 10"), 0);
        Check.due("3: the last holds", x.told(1), 10);
        fault(nine + "one 1;one 2", 59);
        fault(nine + "one 1;", 59);
        fault(nine + "more 1 w=1;", 64);
        fault(nine, 54);
        StringBuilder long100 = new StringBuilder("more 99 w=10");
        while (long100.length() < 100) long100.append("|w=1");
        Check.due("3: a text of 100", Check.house(new ChiefGrades(), long100.toString()), 0);
        fault(long100.substring(0, 96) + "&w= ", 99);
        fault(long100.substring(0, 96) + "&(w=", 100);
    }

    private static void openOnes() {
        ChiefGrades x = new ChiefGrades();
        Check.due("3: five ! open", Check.house(x, "more 1 !!!!!w=1"), 0);
        Check.due("3: five ( open", Check.house(x, "more 1 (((((w=1)))))"), 1);
        Check.due("3: mixed ones", Check.house(x, "more 1 !(!(!w=1))"), 2);
        Check.due("3: closed ones are open no more",
                Check.house(x, "more 1 (!(!(w=1)))&!!!!!w=1|(((((c=1)))))"), 3);
        Check.due("3: a ! ends with its F", Check.house(x, "more 1 !w=1&!w=2&!w=3&!w=4&!w=5&!w=6|!w=7"), 4);
        fault("more 1 !!!!!!w=1", 12);
        fault("more 1 ((((((w=1))))))", 12);
        fault("more 1 !(!(!(w=1)))", 12);
        fault("more 1 !!!!!(w=1)", 12);
        fault("more 1 (((((!w=1)))))", 12);
        fault("more 1 w=1&(((((c=1&!c=1)))))", 20);
        fault("more 1 (((((w=1))))", 19);
    }

    private static void housesByNumber() {
        ChiefGrades x = new ChiefGrades();
        for (int i = 0; i < 5; i++) {
            Check.due("3: a fault takes no number", Check.house(x, "five"), -14);
            Check.due("3: number", Check.house(x, "five " + (i + 20)), i);
            Check.due("3: the newest one holds", x.told(0), i + 20);
            Check.due("3: so of one, without a clause", x.told(1), 0);
            Check.due("3: how many", x.count(2), i + 1);
        }
    }

    private static void fullAheadOfAll() {
        ChiefGrades x = new ChiefGrades();
        for (int i = 0; i < 5; i++) Check.house(x, "pay " + i);
        Check.due("3: FULL, the tape is a house", Check.house(x, "pay 9"), FULL);
        Check.due("3: the tape stays", x.count(4), 5);
        Check.due("3: what held holds", x.told(2), 4);
        Check.feed(x, "9");
        Check.due("3: FULL again", x.house(), FULL);
        Check.due("3: signs come behind", x.count(4), 6);
        Check.feed(x, "x");
        Check.due("3: FULL, the tape is no house", x.house(), FULL);
        Check.due("3: the tape stays then, too", x.count(4), 7);
    }

    /** Worker 2 (worth 47) of a team of three of chief 1 (kind 4, desk far off) in the year 3. */
    private static boolean holds(String e) {
        ChiefGrades x = new ChiefGrades();
        Check.due("3: a house with " + e, Check.house(x, "more 70 " + e), 0);
        x.chief(0, 0, 0);
        x.chief(4, 0, 9);
        x.worker(1, 60, 60, 0);
        x.worker(1, 60, 60, 0);
        x.worker(1, 60, 60, 0);
        for (int i = 0; i < 3; i++) x.year();
        x.set(2, 0, 47);
        int mark = x.mark(2, 1);
        Check.due("3: mark with " + e, mark == 47 || mark == 117 ? 1 : 0, 1);
        return mark == 117;
    }

    private static void test(String e, boolean due) {
        Check.due("3: " + e, holds(e) ? 1 : 0, due ? 1 : 0);
    }

    private static void tests() {
        int[] values = {2, 1, 4, 4, 3, 3};
        for (int i = 0; i < 6; i++) {
            char letter = "wckbyt".charAt(i);
            int is = values[i];
            for (int n = is - 1; n <= is + 1; n++) {
                test(letter + "<" + n, is < n);
                test(letter + "=" + n, is == n);
                test(letter + ">" + n, is > n);
            }
            test(letter + "<99", true);
            test(letter + "=" + is + "0", false);
            test(letter + ">0", true);
            test(letter + "<0", false);
        }
    }

    /** b is WORTH by 10 (cut), y is THE YEAR modulo 10. */
    private static void tensAndYears() {
        ChiefGrades x = new ChiefGrades();
        Check.house(x, "more 1 b>0;more 1 b>1;more 1 b>4;more 1 b>7;more 1 b>8;more 20 y=0;more 40 y=1;pay 0");
        x.chief(0, 0, 0);
        x.worker(0, 0, 0, 0);
        int[][] due = {{0, 0}, {9, 0}, {10, 1}, {19, 1}, {20, 2}, {49, 2}, {50, 3}, {79, 3}, {80, 4}, {89, 4},
            {90, 5}, {99, 5}};
        for (int[] one : due) {
            x.set(0, 0, one[0]);
            Check.due("3: b of worth " + one[0], x.mark(0, 0), one[0] + one[1] + 20);
        }
        int[] years = {20, 40, 0, 0, 0, 0, 0, 0, 0, 0, 20, 40, 0, 0, 0, 0, 0, 0, 0, 0, 20, 40, 0};
        for (int year = 0; year < years.length; year++) {
            Check.due("3: y of the year " + year, x.mark(0, 0), 99 + 5 + years[year]);
            x.year();
        }
    }

    private static void andOrNot() {
        String yes = "w=2", no = "w=1";
        test(yes + "&" + yes, true);
        test(yes + "&" + no, false);
        test(no + "&" + yes, false);
        test(no + "|" + yes, true);
        test(yes + "|" + no, true);
        test(no + "|" + no, false);
        test("!" + no, true);
        test("!!" + no, false);
        test("!" + no + "&" + no, false);
        test("!" + no + "|" + yes, true);
        test("!(" + no + "|" + yes + ")", false);
        test(yes + "|" + no + "&" + no, true);
        test("(" + yes + "|" + no + ")&" + no, false);
        test(no + "&" + no + "|" + yes, true);
        test(no + "&(" + no + "|" + yes + ")", false);
        test(no + "&(" + yes + "|" + no + ")", false);
        test(yes + "&(" + no + "|" + yes + ")", true);
        test(yes + "&!(" + no + "|" + no + ")", true);
        test(no + "|" + yes + "&(" + no + "|" + yes + ")", true);
        test(yes + "&(" + yes + "|" + no + "&" + no + ")", true);
        test(no + "|" + no + "|" + no + "|" + yes, true);
        test(yes + "&" + yes + "&" + yes + "&" + no, false);
        test(no + "|(" + no + "|(" + no + "|(" + no + "|(" + yes + "))))", true);
        test(yes + "&(" + no + "|" + yes + "&(" + no + "|" + yes + "&(" + yes + ")))", true);
    }

    private static void moreAndLess() {
        ChiefGrades x = new ChiefGrades();
        x.chief(0, 0, 0);
        x.worker(0, 50, 0, 0);
        Check.house(x, "more 9 w=0;more 20 w<1;less 5 c=0;less 1 w=1;more 80 w=7;less 0 k=0");
        Check.due("3: all more less all less", x.mark(0, 0), 50 + 9 + 20 - 5);
        Check.house(x, "five 9;less 99 w=0;less 99 w=0;less 99 w=0;one 3");
        Check.due("3: far below", x.mark(0, 0), 50 - 297);
        Check.house(x, "pay 1");
        Check.due("3: an older house holds no more", x.mark(0, 0), 50);
    }

    private static void told() {
        ChiefGrades x = new ChiefGrades();
        Check.due("4: -1", x.told(-1), NONE);
        Check.due("4: 6", x.told(6), NONE);
        Check.due("4: least int", x.told(Integer.MIN_VALUE), NONE);
        Check.house(x, "five 1;pay 0;five 99;one 5;pay 12;one 0");
        Check.due("4: the last five", x.told(0), 99);
        Check.due("4: the last one", x.told(1), 0);
        Check.due("4: the last pay", x.told(2), 12);
        x.year();
        Check.due("4: the year", x.told(3), 1);
        x.fresh(61, 62);
        Check.due("4: worth of new ones", x.told(4), 61);
        Check.due("4: late of new ones", x.told(5), 62);
    }
}
