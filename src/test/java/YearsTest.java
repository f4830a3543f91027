/** Promises 18 and 19: years that go, and years by a way. */
public final class YearsTest {
    private static final int STATE = ChiefGrades.STATE;

    public static void main(String[] args) {
        year();
        gradesAheadOfOuts();
        mostPay();
        lastYear();
        years();
        ways();
        lot();
        byDue();
        beyond();
        refusals();
        Check.end("YearsTest");
    }

    private static void year() {
        ChiefGrades x = new ChiefGrades();
        Check.due("18: nobody", x.year(), 0);
        Check.house(x, "pay 7");
        x.chief(0, 0, 0);
        x.chief(1, 5, 0);
        x.worker(0, 95, 1, 2);
        x.worker(0, 10, 3, 4);
        x.worker(1, 14, 5, 6);
        x.worker(1, 15, 7, 8);
        x.fresh(33, 44);
        Check.due("18: two are out", x.year(), 2);
        int[][] due = {{95, 1, 0, 2, 35}, {33, 44, 0, 4, 0}, {33, 44, 1, 6, 0}, {15, 7, 1, 8, 14}};
        for (int i = 0; i < 4; i++) {
            for (int what = 0; what < 5; what++) {
                Check.due("18: worker " + i + ", what " + what, x.of(i, what), due[i][what]);
            }
        }
        Check.due("18: the year is 1 more", x.told(3), 2);
        Check.due("18: nobody more is out", x.year(), 0);
        Check.due("18: pay is more", x.of(0, 4), 70);
        Check.due("18: pay of a new one", x.of(1, 4), 14);
        Check.due("18: pay without a house", new ChiefGrades().told(2), 10);
    }

    /** Grades are told before anybody is out: nobody's grade hangs on the new ones. */
    private static void gradesAheadOfOuts() {
        ChiefGrades x = new ChiefGrades();
        Check.house(x, "one 5;more 30 y=1");
        x.chief(0, 0, 0);
        x.worker(0, 30, 0, 0);
        x.worker(0, 20, 0, 0);
        x.worker(0, 40, 0, 0);
        x.fresh(99, 99);
        Check.due("18: one is out", x.year(), 1);
        Check.due("18: it", x.of(1, 0), 99);
        Check.due("18: pay of the first", x.of(0, 4), 20);
        Check.due("18: one is out again", x.year(), 1);
        Check.due("18: the next one", x.of(0, 0), 99);
        Check.due("18: its pay", x.of(0, 4), 0);
        Check.due("18: pay by the year's mark", x.of(2, 4), 30 + 40);
    }

    private static void mostPay() {
        ChiefGrades x = new ChiefGrades();
        Check.house(x, "pay 99");
        x.chief(0, 0, 0);
        x.worker(0, 90, 0, 0);
        for (int i = 0; i < 20; i++) x.year();
        Check.due("18: 20 years", x.of(0, 4), 9900);
        Check.due("19: one more, asked", x.years(1, 1, 10), 9999);
        x.year();
        Check.due("18: 9999 at most", x.of(0, 4), 9999);
        x.year();
        Check.due("18: and so on", x.of(0, 4), 9999);
        x.set(0, 0, 5);
        x.year();
        Check.due("18: one that's out has 0", x.of(0, 4), 0);
    }

    private static void lastYear() {
        ChiefGrades x = new ChiefGrades();
        x.chief(0, 0, 0);
        x.worker(0, 30, 0, 0);
        for (int i = 0; i < 98; i++) x.year();
        Check.due("18: from 98 on to 99", x.year(), 0);
        Check.due("18: it is 99", x.told(3), 99);
        Check.due("18: pay", x.of(0, 4), 99 * 20);
        Check.due("18: no year more", x.year(), STATE);
        Check.due("18: it stays 99", x.told(3), 99);
        Check.due("18: no pay", x.of(0, 4), 99 * 20);
        Check.due("19: years go beyond", x.years(20, 0, 10), 119 * 20);
        Check.due("18: asked ones change nothing", x.told(3), 99);
    }

    private static ChiefGrades three(String house) {
        ChiefGrades x = new ChiefGrades();
        Check.house(x, house);
        x.chief(0, 0, 0);
        x.worker(0, 30, 0, 0);
        x.worker(0, 50, 0, 0);
        x.worker(0, 70, 0, 0);
        x.fresh(61, 0);
        return x;
    }

    private static void years() {
        ChiefGrades x = three("one 4;pay 1");
        Check.due("19: none: worth", x.years(0, 0, 0), 150);
        Check.due("19: none: outs", x.years(0, 0, 1), 0);
        Check.due("19: none: pay", x.years(0, 0, 10), 0);
        // 30, then 50, then a 61 (the greater number of 0 and 1), and again
        Check.due("19: 1: worth", x.years(1, 0, 0), 61 + 50 + 70);
        Check.due("19: 2: worth", x.years(2, 0, 0), 61 + 61 + 70);
        Check.due("19: 3: outs", x.years(3, 0, 1), 3);
        Check.due("19: 3: pay of 0", x.years(3, 0, 10), 4 + 4);
        Check.due("19: 3: pay of 1", x.years(3, 0, 11), 0);
        Check.due("19: 3: pay of 2", x.years(3, 0, 12), 4 + 4 + 4);
        Check.due("19: 20: outs", x.years(20, 0, 1), 20);
        Check.due("19: the year stays", x.told(3), 0);
        Check.due("19: worth stays", x.of(0, 0), 30);
        Check.due("19: pay stays", x.of(2, 4), 0);
        x.year();
        Check.due("19: from now on", x.years(2, 0, 12), 4 + 4 + 4);
    }

    private static void ways() {
        ChiefGrades x = three("one 4;pay 1");
        Check.due("19: nobody out: worth", x.years(3, 1, 0), 150);
        Check.due("19: nobody out: outs", x.years(3, 1, 1), 0);
        Check.due("19: nobody out: pay of a 1", x.years(3, 1, 10), 3);
        Check.due("19: nobody out: pay of a 3", x.years(3, 1, 11), 9);
    }

    private static void lot() {
        ChiefGrades x = three("one 4;pay 1");
        // as many as have a 1: one; who: 0, 7 % 3 = 1, 14 % 3 = 2, 21 % 3 = 0
        Check.due("19: lot, 1: worth", x.years(1, 2, 0), 61 + 50 + 70);
        Check.due("19: lot, 2: worth", x.years(2, 2, 0), 61 + 61 + 70);
        Check.due("19: lot, 3: worth", x.years(3, 2, 0), 61 * 3);
        Check.due("19: lot, 3: outs", x.years(3, 2, 1), 3);
        Check.due("19: lot, 3: pay of 2", x.years(3, 2, 12), 0);
        // it is out in the year 1; a 1 of two like ones in the year 2, a 4 in the year 3
        Check.due("19: lot, 4: pay of 1", x.years(4, 2, 11), 1 + 4);
        ChiefGrades y = three("one 7;pay 1");
        y.year();
        // marks 61 61 70: two ones, 1 and 0; by lot in the year 1 from 1 on: 1 and 2
        Check.due("19: lot, two: pay of 0", y.years(1, 2, 10), 1);
        Check.due("19: lot, two: pay of 1", y.years(1, 2, 11), 0);
        Check.due("19: lot, two: pay of 2", y.years(1, 2, 12), 0);
        y.year();
        // the year 2: from 14 % 3 = 2 on, and round: 2 and 0
        Check.due("19: lot, round: pay of 0", y.years(1, 2, 10), 0);
        Check.due("19: lot, round: pay of 1", y.years(1, 2, 11), 1);
        Check.due("19: lot, round: pay of 2", y.years(1, 2, 12), 0);
    }

    private static void byDue() {
        ChiefGrades x = new ChiefGrades();
        Check.house(x, "more 70 w=0;less 70 w=1;pay 1");
        x.chief(0, 0, 0);
        x.worker(0, 10, 0, 0);
        x.worker(0, 80, 0, 0);
        x.fresh(25, 0);
        Check.due("19: as told, pay of 0", x.years(1, 0, 10), 5);
        Check.due("19: as told, pay of 1", x.years(1, 0, 11), 0);
        Check.due("19: as told, worth", x.years(1, 0, 0), 10 + 25);
        Check.due("19: by due, pay of 0", x.years(1, 3, 10), 0);
        Check.due("19: by due, pay of 1", x.years(1, 3, 11), 5);
        Check.due("19: by due, worth", x.years(1, 3, 0), 25 + 80);
        Check.due("19: by due, outs", x.years(5, 3, 1), 1);
    }

    private static void beyond() {
        ChiefGrades x = new ChiefGrades();
        Check.house(x, "one 4;pay 1;more 40 y=0&w=2");
        x.chief(2, 0, 0);
        for (int i = 0; i < 3; i++) x.worker(0, 50, 0, 0);
        for (int i = 0; i < 95; i++) x.year();
        // the places of the ones from the year 95 on: 2 0 1 2 0, then, in the year 100, 1
        Check.due("19: nobody out, 6 years: pay of 0", x.years(6, 1, 10) - x.of(0, 4), 3 * 4 + 2);
        Check.due("19: nobody out, 6 years: pay of 1", x.years(6, 1, 11) - x.of(1, 4), 3 * 4 + 2);
        Check.due("19: nobody out, 6 years: pay of 2", x.years(6, 1, 12) - x.of(2, 4), 3 * 3 + 2 + 5);
    }

    private static void refusals() {
        ChiefGrades x = three("pay 1");
        Check.due("19: 21 years", x.years(21, 0, 0), -1002);
        Check.due("19: -1 years", x.years(-1, 0, 0), -1002);
        Check.due("19: most years", x.years(Integer.MAX_VALUE, 3, 12), -1002);
        Check.due("19: 20 years", x.years(20, 0, 0), 150);
        Check.due("19: way 4", x.years(1, 4, 0), -1001);
        Check.due("19: way -1", x.years(1, -1, 0), -1001);
        Check.due("19: what 2", x.years(1, 0, 2), -1001);
        Check.due("19: what 9", x.years(1, 0, 9), -1001);
        Check.due("19: what 13", x.years(1, 0, 13), -1001);
        Check.due("19: what -1", x.years(1, 0, -1), -1001);
        Check.due("19: least what", x.years(1, 0, Integer.MIN_VALUE), -1001);
        Check.due("19: way ahead of years", x.years(21, 4, 0), -1001);
        Check.due("19: what ahead of years", x.years(21, 0, 13), -1001);
        Check.due("19: nobody", new ChiefGrades().years(20, 2, 1), 0);
        Check.due("19: nobody by due", new ChiefGrades().years(20, 3, 0), 0);
        Check.due("19: nobody's pay", new ChiefGrades().years(1, 0, 10), -1001);
    }
}
