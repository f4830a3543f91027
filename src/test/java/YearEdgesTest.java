/** Edges of YEARS: pay at its most, who is out, YEAR 99 and beyond, 0 and 20 years, the lot. */
public final class YearEdgesTest {
    private static final int STATE = ChiefGrades.STATE;

    public static void main(String[] args) {
        mostPay();
        leastPay();
        outs();
        allElse();
        newOnes();
        toYear99();
        atYear99();
        noYears();
        twentyYears();
        oneByOne();
        lot();
        lotBeyond();
        nobodyOut();
        byDue();
        Check.end("YearEdgesTest");
    }

    private static ChiefGrades one(String house, int worth) {
        ChiefGrades x = new ChiefGrades();
        Check.house(x, house);
        x.chief(0, 0, 0);
        x.worker(0, worth, 0, 0);
        return x;
    }

    /** "9999 at most": just there, one less, and each way beyond. */
    private static void mostPay() {
        int[][] last = {{32, 9996}, {33, 9999}, {34, 9999}, {99, 9999}};
        for (int[] n : last) {
            ChiefGrades x = one("pay 99", 90);
            for (int i = 0; i < 20; i++) x.year();
            Check.due("18: 20 years of 5 times 99", x.of(0, 4), 9900);
            Check.house(x, "pay " + n[0]);
            x.set(0, 0, 50);
            for (int way = 0; way < 4; way++) {
                Check.due("19: then " + n[0] + " by 3", x.years(1, way, 10), n[1]);
                Check.due("19: and once more", x.years(4, way, 10), 9999);
            }
            x.year();
            Check.due("18: then " + n[0] + " by 3", x.of(0, 4), n[1]);
            x.year();
            Check.due("18: and once more", x.of(0, 4), 9999);
            Check.house(x, "pay 0");
            x.year();
            Check.due("18: it stays", x.of(0, 4), 9999);
            x.set(0, 0, 19);
            x.year();
            Check.due("18: one who is out has 0", x.of(0, 4), 0);
        }
    }

    /** pay 0 .. 99 times GRADE 2 .. 5; a WORKER's PAY is 0 at first, whoever had it before an undo. */
    private static void leastPay() {
        for (int pay : new int[] {0, 1, 9, 10, 98, 99}) {
            for (int grade = 2; grade <= 5; grade++) {
                ChiefGrades x = one("pay " + pay, 20 * grade - 20);
                Check.due("6: pay at first", x.of(0, 4), 0);
                Check.due("19: pay " + pay + " by " + grade, x.years(1, 0, 10), pay * grade);
                Check.due("18: nobody is out", x.year(), 0);
                Check.due("18: pay " + pay + " by " + grade, x.of(0, 4), pay * grade);
            }
        }
        ChiefGrades x = new ChiefGrades();
        x.chief(0, 0, 0);
        x.image();
        x.worker(0, 90, 0, 0);
        x.year();
        Check.due("18: pay", x.of(0, 4), 50);
        x.undo();
        x.worker(0, 90, 0, 0);
        Check.due("6: pay at first, once more", x.of(0, 4), 0);
    }

    /** "those with GRADE 1 are out": none, one, all ten; by MARK and by share. */
    private static void outs() {
        for (int low = 0; low <= 10; low++) {
            ChiefGrades x = new ChiefGrades();
            x.chief(0, 0, 0);
            for (int w = 0; w < 10; w++) x.worker(0, w < low ? 19 : 20, 7, w);
            Check.due("19: asked, so many are out", x.years(1, 0, 1), low);
            Check.due("18: so many are out", x.year(), low);
            for (int w = 0; w < 10; w++) {
                Check.due("18: worth of " + w, x.of(w, 0), w < low ? 50 : 20);
                Check.due("18: late of " + w, x.of(w, 1), w < low ? 50 : 7);
                Check.due("18: pay of " + w, x.of(w, 4), w < low ? 0 : 20);
                Check.due("18: chief of " + w, x.of(w, 2), 0);
                Check.due("18: desk of " + w, x.of(w, 3), w);
            }
        }
        ChiefGrades all = one("one 10", 99);
        Check.due("18: by share", all.year(), 1);
        Check.due("18: a new one", all.of(0, 0), 50);
    }

    /** "all else stays": the signs, the houses, the chiefs, the book, what new ones have, the trace. */
    private static void allElse() {
        ChiefGrades x = Scene.full();
        int[] counts = new int[6];
        for (int what = 0; what < 6; what++) counts[what] = x.count(what);
        for (int i = 0; i < 9; i++) x.year();
        for (int what = 0; what < 6; what++) Check.due("18: count " + what + " stays", x.count(what), counts[what]);
        int[] told = {4, 3, 5, 9, 50, 50};
        for (int what = 0; what < 6; what++) Check.due("18: told " + what, x.told(what), told[what]);
        for (int c = 0; c < 4; c++) {
            Check.due("18: v of " + c + " stays", x.by(c, 1), c + 1);
            Check.due("18: desk of " + c + " stays", x.by(c, 2), 2 * c);
            Check.due("18: net of " + c + " stays", x.nets(c), c % 2 == 0 ? 5 : 10);
        }
        Check.due("18: the trace stays", x.trace(0), 31);
        for (int w = 0; w < 10; w++) {
            Check.due("18: chief of " + w + " stays", x.of(w, 2), w % 4);
            Check.due("18: desk of " + w + " stays", x.of(w, 3), w);
        }
    }

    /** "(50, 50 at first)", the least and the greatest that can be told, and what fresh() tells later. */
    private static void newOnes() {
        int[][] told = {{0, 0}, {0, 99}, {99, 0}, {99, 99}};
        ChiefGrades x = one("pay 1", 0);
        Check.due("4: worth at first", x.told(4), 50);
        Check.due("4: late at first", x.told(5), 50);
        int before = 50;
        for (int[] n : told) {
            Check.due("11: worth that they had", x.fresh(n[0], n[1]), before);
            before = n[0];
            x.set(0, 0, 19);
            Check.due("18: out", x.year(), 1);
            Check.due("18: worth", x.of(0, 0), n[0]);
            Check.due("18: late", x.of(0, 1), n[1]);
        }
        x.fresh(5, 5);
        Check.due("11: who is there stays", x.of(0, 0), 99);
        Check.due("18: one who is not out", x.year(), 0);
        x.fresh(0, 0);
        x.set(0, 0, 0);
        Check.due("19: the new one is out again, each year", x.years(20, 0, 1), 20);
    }

    private static void toYear99() {
        ChiefGrades x = new ChiefGrades();
        for (int i = 0; i < 99; i++) {
            Check.due("4: the year", x.told(3), i);
            Check.due("18: a year goes", x.year(), 0);
        }
        Check.due("4: YEAR 99", x.told(3), 99);
        Check.due("18: no year goes", x.year(), STATE);
        Check.due("4: YEAR 99 still", x.told(3), 99);
    }

    private static ChiefGrades old() {
        ChiefGrades x = one("pay 1;more 40 y=9;less 20 y=0;more 1 y=1", 45);
        for (int i = 0; i < 99; i++) x.year();
        return x;
    }

    /** "STATE: it is YEAR 99" changes nothing; "(also beyond YEAR 99)"; an image from before goes on. */
    private static void atYear99() {
        ChiefGrades x = old();
        int pay = x.of(0, 4);
        Check.due("18: STATE", x.year(), STATE);
        Check.due("18: no pay", x.of(0, 4), pay);
        // YEAR 99: 85, a 5; YEAR 100: y is 0, 25, a 2; YEAR 101: 46, a 3
        Check.due("12: MARK in YEAR 99", x.mark(0, 0), 85);
        Check.due("19: YEAR 99 itself", x.years(1, 0, 10), pay + 5);
        Check.due("19: YEAR 100", x.years(2, 0, 10), pay + 7);
        Check.due("19: YEAR 101", x.years(3, 0, 10), pay + 10);
        Check.due("19: asked ones leave it", x.told(3), 99);
        Check.due("18: STATE still", x.year(), STATE);
        ChiefGrades y = new ChiefGrades();
        for (int i = 0; i < 98; i++) y.year();
        y.image();
        Check.due("18: to YEAR 99", y.year(), 0);
        Check.due("18: no more", y.year(), STATE);
        y.undo();
        Check.due("30: YEAR 98 again", y.told(3), 98);
        Check.due("18: to YEAR 99 again", y.year(), 0);
        Check.due("18: no more again", y.year(), STATE);
    }

    private static void noYears() {
        ChiefGrades x = Scene.full();
        int worth = 0;
        for (int w = 0; w < 10; w++) worth += x.of(w, 0);
        for (int way = 0; way < 4; way++) {
            Check.due("19: no years, worth", x.years(0, way, 0), worth);
            Check.due("19: no years, outs", x.years(0, way, 1), 0);
            for (int w = 0; w < 10; w++) Check.due("19: no years, pay", x.years(0, way, 10 + w), x.of(w, 4));
        }
    }

    private static void twentyYears() {
        ChiefGrades x = one("pay 99", 90);
        Check.due("19: 20 years", x.years(20, 0, 10), 9900);
        Check.due("19: 19 years", x.years(19, 0, 10), 9900 - 495);
        Check.due("19: 21 years", x.years(21, 0, 10), -1002);
    }

    /** YEARS of n are n times a YEAR. */
    private static void oneByOne() {
        for (int n = 0; n <= 20; n++) {
            ChiefGrades x = Scene.full();
            x.fresh(61, 3);
            int asked = x.years(n, 0, 1);
            int[] pays = new int[10];
            for (int w = 0; w < 10; w++) pays[w] = x.years(n, 0, 10 + w);
            int out = 0;
            for (int i = 0; i < n; i++) out += x.year();
            Check.due("19: outs of " + n, asked, out);
            for (int w = 0; w < 10; w++) Check.due("19: pay of " + w + " in " + n, pays[w], x.of(w, 4));
        }
    }

    /** As many as have GRADE 1: of five one has, 20 years from YEAR 0 on: 0, 2, 4, 1, 3 by 7 modulo 5. */
    private static void lot() {
        int[] due = {0, 2, 4, 1, 3};
        ChiefGrades x = new ChiefGrades();
        Check.house(x, "one 2;pay 1");
        x.chief(0, 0, 0);
        for (int w = 0; w < 5; w++) x.worker(0, 90, 0, 0);
        x.fresh(90, 90);
        for (int year = 0; year < 20; year++) {
            for (int w = 0; w < 5; w++) {
                int pay = x.years(1, 2, 10 + w);
                Check.due("19: out by lot in the year " + year + ": " + w, pay == 0 ? 1 : 0, w == due[year % 5] ? 1 : 0);
            }
            x.year();
        }
        // all of five, three, and none are out; the places go on, and round
        int[] many = {0, 1, 3, 5};
        for (int k : many) {
            ChiefGrades y = new ChiefGrades();
            Check.house(y, "one " + 2 * k + ";pay 1");
            y.chief(0, 0, 0);
            for (int w = 0; w < 5; w++) y.worker(0, 90, 0, 0);
            y.fresh(90, 90);
            for (int year = 0; year < 10; year++) {
                int left = 0;
                for (int w = 0; w < 5; w++) {
                    if (y.years(1, 2, 10 + w) == 0) left |= 1 << w;
                }
                int want = 0, place = due[year % 5];
                for (int i = 0; i < k; i++) {
                    want |= 1 << place;
                    place = place == 4 ? 0 : place + 1;
                }
                Check.due("19: " + k + " by lot in the year " + year, left, want);
                Check.due("19: how many", y.years(1, 2, 1), k);
                y.year();
            }
        }
    }

    /** YEARS by lot beyond YEAR 99: 100 times 7 modulo 3 is 1, 101 times 7 modulo 3 is 2. */
    private static void lotBeyond() {
        ChiefGrades x = new ChiefGrades();
        Check.house(x, "one 4;pay 0");
        x.chief(0, 0, 0);
        for (int w = 0; w < 3; w++) x.worker(0, 90, 0, 0);
        x.fresh(90, 0);
        for (int i = 0; i < 99; i++) x.year();
        Check.house(x, "one 4;pay 1");
        // YEAR 99: 0 is out, 2 has the 1 and stays; YEAR 100: 1 is out; YEAR 101: 2 is out
        Check.due("19: YEAR 99, first", x.years(1, 2, 10), 0);
        Check.due("19: YEAR 99, third", x.years(1, 2, 12), 1);
        Check.due("19: YEAR 100, first", x.years(2, 2, 10), 5);
        Check.due("19: YEAR 100, second", x.years(2, 2, 11), 0);
        Check.due("19: YEAR 100, third", x.years(2, 2, 12), 2);
        Check.due("19: YEAR 101, first", x.years(3, 2, 10), 10);
        Check.due("19: YEAR 101, second", x.years(3, 2, 11), 5);
        Check.due("19: YEAR 101, third", x.years(3, 2, 12), 0);
    }

    private static void nobodyOut() {
        ChiefGrades x = one("one 10;pay 9", 0);
        Check.due("19: nobody is out", x.years(20, 1, 1), 0);
        Check.due("19: worth stays", x.years(20, 1, 0), 0);
        Check.due("19: a 1 is paid, too", x.years(20, 1, 10), 180);
        Check.due("19: as told, all are out", x.years(20, 0, 1), 1 + 19);
        Check.due("19: as told, pay is gone", x.years(20, 0, 10), 0);
    }

    /** Way 3: DUE in place of GRADE, for who is out and for PAY; it is told anew each year. */
    private static void byDue() {
        ChiefGrades x = new ChiefGrades();
        Check.house(x, "less 99 w<9;one 4;pay 1");
        x.chief(2, 0, 0);
        x.chief(5, 1, 0);
        x.chief(4, 9, 9);
        for (int w = 0; w < 5; w++) x.worker(w % 3, 60 + 5 * w, 0, 0);
        x.fresh(99, 0);
        // dues of 60 65 70 75 80: 1 1 4 4 5; then 99 99 70 75 80: 5 5 1 1 5
        Check.due("19: one year, outs", x.years(1, 3, 1), 2);
        Check.due("19: one year, worth", x.years(1, 3, 0), 99 + 99 + 70 + 75 + 80);
        Check.due("19: one year, pay", x.years(1, 3, 14), 5);
        Check.due("19: two years, outs", x.years(2, 3, 1), 4);
        Check.due("19: two years, worth", x.years(2, 3, 0), 99 * 4 + 80);
        Check.due("19: two years, pay of one out", x.years(2, 3, 12), 0);
        Check.due("19: two years, pay of a new one", x.years(2, 3, 10), 5);
        Check.due("19: two years, pay of who stays", x.years(2, 3, 14), 10);
    }
}
