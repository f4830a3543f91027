/** Promises 12 to 17, and the grades of promise 7: marks, shares, kinds, dues, moves, swaps. */
public final class GradesTest {
    private static final int NONE = ChiefGrades.NONE, BAD = ChiefGrades.BAD;

    public static void main(String[] args) {
        mark();
        gradesByMark();
        fives();
        ones();
        turning();
        keeping();
        due();
        levelled();
        wrong();
        moved();
        best();
        asked();
        askedOfOthers();
        swap();
        Check.end("GradesTest");
    }

    /** A chief of kind 0 and a team of such worths. */
    private static ChiefGrades team(String house, int kind, int v, int... worths) {
        ChiefGrades x = new ChiefGrades();
        if (!house.isEmpty()) Check.due("house " + house, Check.house(x, house), 0);
        x.chief(kind, v, 0);
        for (int worth : worths) x.worker(0, worth, 0, 0);
        return x;
    }

    private static void grades(String what, ChiefGrades x, int kindOfGrade, int... due) {
        for (int i = 0; i < due.length; i++) Check.due(what + ", worker " + i, x.of(i, kindOfGrade), due[i]);
    }

    private static void mark() {
        int[][] due = {{0, 57}, {1, 57 + 7}, {2, 57}, {3, (57 * 3 + 96 * 7) / 10}, {5, 57},
            {6, (57 * 3 + 96 * 7) / 10 + 14}};
        for (int[] one : due) {
            ChiefGrades x = new ChiefGrades();
            x.chief(one[0], 7, 2);
            x.worker(0, 57, 96, 5);
            Check.due("12: kind " + one[0], x.mark(0, 0), one[1]);
        }
        ChiefGrades x = new ChiefGrades();
        x.chief(4, 7, 2);
        x.chief(3, 0, 0);
        x.chief(3, 9, 0);
        x.chief(3, 1, 0);
        x.worker(0, 57, 96, 5);
        x.worker(1, 57, 96, 0);
        x.worker(1, 19, 1, 2);
        Check.due("12: near, desk above", x.mark(0, 0), 57 + 7 + 9 - 3);
        Check.due("12: near, desk below", x.mark(1, 0), 57 + 7 + 9 - 2);
        Check.due("12: near, the same desk", x.mark(2, 0), 19 + 7 + 9);
        Check.due("12: lately of 0", x.mark(0, 1), 57);
        Check.due("12: lately of 9 (cut)", x.mark(0, 2), 92);
        Check.due("12: lately is cut", x.mark(2, 3), 17);
        Check.due("12: worker 3", x.mark(3, 0), -1001);
        Check.due("12: worker -1", x.mark(-1, 0), -1001);
        Check.due("12: chief 4", x.mark(0, 4), -1001);
        Check.due("12: chief -1", x.mark(0, -1), -1001);
        Check.house(x, "more 30 t=1;more 9 c=0;less 2 t=2;more 50 b=5&k=3");
        Check.due("12: the team as it is, own", x.mark(0, 0), 70 + 30 + 9);
        Check.due("12: the team as it is, another's", x.mark(0, 1), 57 - 2 + 50);
        Check.due("12: no team", x.mark(0, 2), 92 + 50);
    }

    private static void gradesByMark() {
        int[][] due = {{0, 1}, {19, 1}, {20, 2}, {39, 2}, {40, 3}, {59, 3}, {60, 4}, {79, 4}, {80, 5}, {99, 5}};
        for (int[] one : due) {
            grades("7: grade of mark " + one[0], team("", 0, 0, one[0]), 6, one[1]);
        }
        ChiefGrades x = team("less 99 w=0", 0, 0, 50);
        grades("7: grade of a mark below 0", x, 6, 1);
        grades("7: grade of a mark above 99", team("more 99 w=0", 0, 0, 99), 6, 5);
    }

    private static void fives() {
        grades("7: without a house all may", team("", 0, 0, 90, 80, 95), 6, 5, 5, 5);
        grades("7: none of 0", team("five 0", 0, 0, 90, 80, 95), 6, 4, 4, 4);
        grades("7: half of 4", team("five 5", 0, 0, 90, 85, 85, 95), 6, 5, 4, 4, 5);
        grades("7: the least number of like ones", team("five 5", 0, 0, 85, 85, 85, 85), 6, 5, 5, 4, 4);
        grades("7: cut", team("five 3", 0, 0, 85, 86, 87), 6, 4, 4, 4);
        grades("7: 4 of 3, cut to 1", team("five 4", 0, 0, 85, 86, 87), 6, 4, 4, 5);
        grades("7: who may need not", team("five 5", 0, 0, 10, 70, 30, 50), 6, 1, 4, 2, 3);
        grades("7: more than there are", team("five 99", 0, 0, 90, 80, 95), 6, 5, 5, 5);
        grades("7: of all kinds", team("five 5", 2, 0, 85, 85, 85, 85), 6, 5, 5, 4, 4);
    }

    private static void ones() {
        grades("7: none of 0", team("one 0", 0, 0, 90, 90, 90), 6, 5, 5, 5);
        grades("7: the least marks", team("one 5", 0, 0, 50, 90, 60, 30), 6, 1, 5, 4, 1);
        grades("7: the greatest number of like ones", team("one 5", 0, 0, 90, 90, 90, 90), 6, 5, 5, 1, 1);
        grades("7: cut", team("one 3", 0, 0, 90, 90, 90), 6, 5, 5, 5);
        grades("7: 9 of 3, cut to 2", team("one 9", 0, 0, 90, 90, 90), 6, 5, 1, 1);
        grades("7: all", team("one 10", 0, 0, 90, 95, 90), 6, 1, 1, 1);
        grades("7: no more than there are", team("one 99", 0, 0, 90, 95, 90), 6, 1, 1, 1);
        grades("7: fives, then ones", team("five 10;one 10", 0, 0, 90), 6, 1);
        grades("7: fives go to none in a one's place", team("five 5;one 5", 0, 0, 85, 84), 6, 5, 1);
    }

    /** Of kind and v a team 0, 2, 3, 5 (1 and 4 are another's) with two ones: who has a 1 in the year. */
    private static void onesInYear(int kind, int v, int year, int due) {
        ChiefGrades x = new ChiefGrades();
        Check.house(x, "one 5;pay 0");
        x.chief(kind, v, 0);
        x.chief(0, 0, 0);
        for (int i = 0; i < 6; i++) x.worker(i == 1 || i == 4 ? 1 : 0, 90 - 2 * i, 0, 0);
        x.fresh(90, 0);
        for (int i = 0; i < year; i++) x.year();
        int ones = 0;
        for (int i = 0; i < 6; i++) {
            if (x.of(i, 2) == 0 && x.of(i, 6) == 1) ones |= 1 << i;
        }
        Check.due("7: ones of kind " + kind + ", v " + v + ", in the year " + year, ones, due);
    }

    private static void turning() {
        int[] due = {1 + 4, 4 + 8, 8 + 32, 32 + 1, 1 + 4, 4 + 8};
        for (int year = 0; year < 6; year++) onesInYear(2, 0, year, due[year]);
        onesInYear(2, 3, 1, 4 + 8);
        onesInYear(0, 3, 0, 8 + 32);
        grades("7: turning whatever they had", team("one 5", 2, 0, 90, 10), 6, 1, 1);
        grades("7: turning of one alone", team("one 10", 2, 0, 90), 6, 1);
        grades("7: turning, all", team("one 99", 2, 0, 90, 90, 90), 6, 1, 1, 1);
    }

    private static void keeping() {
        int[] kept3 = {8 + 1, 8 + 4, 8 + 32, 8 + 1, 8 + 4};
        int[] kept0 = {1 + 4, 1 + 8, 1 + 32, 1 + 4};
        int[] kept5 = {32 + 1, 32 + 4, 32 + 8, 32 + 1};
        int[] turning = {1 + 4, 4 + 8, 8 + 32, 32 + 1, 1 + 4};
        for (int year = 0; year < 5; year++) onesInYear(5, 3, year, kept3[year]);
        for (int year = 0; year < 4; year++) onesInYear(5, 0, year, kept0[year]);
        for (int year = 0; year < 4; year++) onesInYear(5, 5, year, kept5[year]);
        for (int year = 0; year < 5; year++) onesInYear(5, 4, year, turning[year]);
        for (int year = 0; year < 5; year++) onesInYear(5, 9, year, turning[year]);
        grades("7: keeping of one alone", team("one 10", 5, 0, 90), 6, 1);
        grades("7: keeping, no one's share", team("one 4", 5, 0, 90, 90), 6, 5, 5);
        grades("7: keeping, all", team("one 10", 5, 1, 90, 90, 90), 6, 1, 1, 1);
        grades("7: keeping just it", team("one 4", 5, 2, 10, 50, 90), 6, 1, 3, 1);
    }

    private static void due() {
        ChiefGrades x = new ChiefGrades();
        Check.house(x, "five 4;one 4;more 99 w<10");
        x.chief(2, 0, 0);
        x.chief(1, 9, 0);
        x.chief(5, 0, 0);
        int[] worths = {85, 85, 20, 90, 20};
        for (int i = 0; i < 5; i++) x.worker(i % 3, worths[i], 99, i);
        grades("7: due", x, 7, 5, 4, 1, 5, 1);
        Check.house(x, "five 4;one 2");
        grades("7: due, one of two like ones", x, 7, 5, 4, 2, 5, 1);
    }

    private static void levelled() {
        ChiefGrades x = new ChiefGrades();
        x.chief(1, 9, 0);
        x.chief(0, 0, 0);
        x.worker(0, 70, 0, 0);
        x.worker(0, 81, 0, 0);
        x.worker(1, 30, 0, 0);
        x.worker(1, 11, 0, 0);
        x.worker(1, 21, 0, 0);
        // marks 79 90 30 11 21: of all 46, of the teams 84 and 20: 38 less, 26 more
        grades("7: levelled", x, 8, 3, 3, 3, 2, 3);
        grades("7: not levelled", x, 6, 4, 5, 2, 1, 2);
        Check.house(x, "less 99 c=1;one 5");
        x.set(1, 0, 99);
        // marks 79 108 -69 -88 -78: -48 / 5 = -9, 187 / 2 = 93, -235 / 3 = -78: 102 less, 69 more
        grades("7: levelled from below 0", x, 8, 1, 1, 1, 1, 1);
        x.set(2, 0, 82);
        // marks 79 108 -17 -88 -78: 4 / 5 = 0, 93, -183 / 3 = -61: 93 less, 61 more
        grades("7: levelled, ones by shares", x, 8, 1, 1, 3, 1, 1);
        x.set(2, 0, 76);
        // marks 79 108 -23 -88 -78: -2 / 5 = 0 (cut toward 0), 93, -189 / 3 = -63: 63 more
        grades("7: levelled, cut toward 0", x, 8, 1, 1, 3, 1, 1);
        ChiefGrades y = new ChiefGrades();
        Check.house(y, "less 99 c=1");
        y.chief(0, 0, 0);
        y.chief(0, 0, 0);
        y.worker(0, 60, 0, 0);
        y.worker(0, 57, 0, 0);
        y.worker(1, 80, 0, 0);
        y.worker(1, 1, 0, 0);
        // marks 60 57 -19 -98: of all 0, of the teams 58 and -58 (cut toward 0)
        grades("7: levelled, a team's cut toward 0", y, 8, 1, 1, 2, 1);
        levelledByTurns();
    }

    private static void levelledByTurns() {
        ChiefGrades x = new ChiefGrades();
        Check.house(x, "one 5;five 5");
        x.chief(2, 0, 0);
        x.chief(0, 0, 0);
        x.worker(0, 60, 0, 0);
        x.worker(0, 62, 0, 0);
        x.worker(1, 98, 0, 0);
        x.worker(1, 96, 0, 0);
        // of all 79, of the teams 61 and 97: 78 80 80 78
        grades("7: levelled, by turns", x, 8, 1, 5, 5, 1);
    }

    private static void wrong() {
        ChiefGrades x = new ChiefGrades();
        Check.due("13: nobody", x.wrong(0), 0);
        Check.due("13: nobody low", x.wrong(1), 0);
        Check.due("13: no grades", x.wrong(2), 0);
        Check.house(x, "more 20 w=1;less 20 w=2|w=4");
        x.chief(0, 0, 0);
        x.chief(0, 0, 0);
        for (int i = 0; i < 5; i++) x.worker(i % 2, 50, 0, 0);
        Check.due("13: wrong", x.wrong(0), 2 + 4 + 16);
        Check.due("13: low", x.wrong(1), 4 + 16);
        Check.due("13: sum", x.wrong(2), 3 + 4 + 2 + 3 + 2);
        Check.due("13: what 3", x.wrong(3), NONE);
        Check.due("13: what -1", x.wrong(-1), NONE);
        Check.due("13: least what", x.wrong(Integer.MIN_VALUE), NONE);
    }

    private static void moved() {
        ChiefGrades x = new ChiefGrades();
        Check.house(x, "more 30 t>2;one 5");
        x.chief(0, 0, 0);
        x.chief(1, 9, 0);
        x.worker(0, 50, 0, 0);
        x.worker(0, 55, 0, 0);
        x.worker(1, 51, 0, 0);
        x.worker(1, 71, 0, 0);
        // own: 50 and 55, a one: worker 0; moved to 1: 89 of 89, 90, 110: the one is its own
        Check.due("14: its own", x.moved(0, 0), 1);
        Check.due("14: the team it comes to is three", x.moved(0, 1), 1);
        Check.due("14: others are less there", x.moved(1, 1), 5);
        Check.due("14: from above", x.moved(3, 0), 5);
        Check.due("14: nobody moved", x.by(0, 4), 3);
        Check.due("14: worker 4", x.moved(4, 0), NONE);
        Check.due("14: worker -1", x.moved(-1, 0), NONE);
        Check.due("14: chief 2", x.moved(0, 2), NONE);
        Check.due("14: chief -1", x.moved(0, -1), NONE);
    }

    private static void best() {
        ChiefGrades x = new ChiefGrades();
        x.chief(0, 0, 0);
        x.chief(1, 9, 0);
        x.chief(1, 8, 0);
        x.worker(0, 72, 0, 0);
        x.worker(2, 61, 0, 0);
        x.worker(0, 11, 0, 0);
        Check.due("15: the least of several", x.best(0, 0), 1);
        Check.due("15: the grade there", x.best(0, 1), 5);
        Check.due("15: all alike", x.best(1, 0), 0);
        Check.due("15: the grade of all", x.best(1, 1), 4);
        Check.due("15: only there", x.best(2, 0), 1);
        Check.due("15: grade only there", x.best(2, 1), 2);
        Check.due("15: what 2", x.best(0, 2), NONE);
        Check.due("15: what -1", x.best(0, -1), NONE);
        Check.due("15: worker 3", x.best(3, 0), NONE);
        Check.due("15: worker -1", x.best(-1, 1), NONE);
        Check.due("15: nobody moved", x.by(1, 3), 0);
    }

    private static void asked() {
        ChiefGrades x = new ChiefGrades();
        x.chief(1, 2, 0);
        x.chief(0, 0, 0);
        x.worker(0, 55, 0, 0);
        x.worker(0, 72, 0, 0);
        // v 2: 57 and 74: 3 and 4; v 5: 60: 4 and 4; v 8: 80: 4 and 5
        Check.due("16: as it is", x.asked(0, 7), 0);
        Check.due("16: less", x.asked(0, 0), 0);
        Check.due("16: 3 more", x.asked(0, 8), 3);
        Check.due("16: 6 more", x.asked(0, 9), 6);
        Check.due("16: by none", x.asked(0, 10), -5);
        Check.due("16: 50", x.asked(0, 50), -5);
        Check.due("16: 51", x.asked(0, 51), BAD);
        Check.due("16: -1", x.asked(0, -1), BAD);
        Check.due("16: chief 2", x.asked(2, 0), NONE);
        Check.due("16: chief -1", x.asked(-1, 0), NONE);
        Check.due("16: NONE ahead of BAD", x.asked(2, 51), NONE);
        Check.due("16: no team, 0", x.asked(1, 0), 0);
        Check.due("16: no team, 1", x.asked(1, 1), -5);
        Check.due("16: v stays", x.by(0, 1), 2);
    }

    private static void askedOfOthers() {
        ChiefGrades x = new ChiefGrades();
        Check.house(x, "one 5");
        x.chief(5, 0, 0);
        x.chief(3, 5, 0);
        x.chief(1, 9, 0);
        x.worker(0, 90, 0, 0);
        x.worker(0, 50, 0, 0);
        x.worker(1, 0, 99, 0);
        x.worker(2, 71, 0, 0);
        // keeping 0: 1 and 3; keeping 1: 5 and 1
        Check.due("16: keeping", x.asked(0, 5), 1);
        Check.due("16: keeping, by none", x.asked(0, 7), -5);
        // lately 5: 49; 7: 69; 9: 89
        Check.due("16: lately", x.asked(1, 4), 2);
        Check.due("16: lately, up to 9", x.asked(1, 5), 4);
        Check.due("16: it is 9", x.asked(2, 5), 0);
        x.set(3, 0, 70);
        Check.due("16: it can't be more", x.asked(2, 5), -5);
    }

    private static void swap() {
        ChiefGrades x = new ChiefGrades();
        Check.due("17: nobody", x.swap(0), 0);
        x.chief(4, 0, 0);
        x.chief(4, 0, 9);
        x.worker(0, 55, 0, 9);
        x.worker(1, 35, 0, 0);
        x.worker(1, 75, 0, 1);
        x.worker(0, 99, 0, 8);
        // marks 55, 35, 76, 99: with the other's desk and chief too they are far off, as before
        Check.due("17: far as before", x.swap(0), 0);
        Check.due("17: none first", x.swap(1), -5);
        x.set(2, 2, 9);
        // worker 2: 84 now, and 75 in the place of worker 0, who would have 64 in its place
        Check.due("17: one alone gains", x.swap(0), 0);
        gainByHouse();
        Check.due("17: what 2", x.swap(2), NONE);
        Check.due("17: what -1", x.swap(-1), NONE);
    }

    private static void gainByHouse() {
        ChiefGrades x = new ChiefGrades();
        Check.house(x, "more 20 w=1&c=1|w=2&c=0|w=3&c=0");
        x.chief(0, 0, 0);
        x.chief(0, 0, 0);
        for (int i = 0; i < 4; i++) x.worker(i / 2, 50, 0, 0);
        Check.due("17: how many", x.swap(0), 2);
        Check.due("17: first", x.swap(1), 12);
        x.move(1, 1);
        Check.due("17: one of them there", x.swap(0), 0);
        x.move(1, 0);
        x.set(2, 0, 61);
        Check.due("17: of 4 to 5", x.swap(1), 12);
        x.set(2, 0, 99);
        Check.due("17: it has a 5", x.swap(1), 13);
        Check.due("17: one pair left", x.swap(0), 1);
        ChiefGrades y = new ChiefGrades();
        y.chief(4, 0, 2);
        y.chief(4, 9, 7);
        y.worker(0, 36, 0, 6);
        y.worker(1, 46, 0, 0);
        // 36 + 5 and 46 + 9 + 2; changed: 36 + 9 + 2 and 46 + 5: all have a 3
        Check.due("17: no greater grade", y.swap(0), 0);
        y.set(0, 0, 33);
        y.set(1, 0, 28);
        // 33 + 5 and 28 + 9 + 2; changed: 33 + 9 + 2 and 28 + 5
        Check.due("17: one gains", y.swap(0), 0);
        desks();
    }

    /** Changing desks, too, makes the difference: each sits where the other's chief is near. */
    private static void desks() {
        ChiefGrades x = new ChiefGrades();
        x.chief(4, 0, 0);
        x.chief(4, 0, 9);
        x.worker(0, 55, 0, 9);
        x.worker(1, 55, 0, 9);
        x.worker(0, 70, 0, 0);
        // 55 + 0, 55 + 9, 70 + 9: worker 0 gains with worker 1, who loses
        Check.due("17: one loses", x.swap(0), 0);
        ChiefGrades y = new ChiefGrades();
        Check.house(y, "more 9 w=0&c=1|w=1&c=0");
        y.chief(4, 0, 0);
        y.chief(4, 0, 9);
        y.worker(0, 50, 0, 0);
        y.worker(1, 50, 0, 9);
        // 59 and 59; with the desks 68 and 68, without them 59 and 59
        Check.due("17: with the desks", y.swap(0), 1);
        Check.due("17: these", y.swap(1), 1);
        Check.due("17: nobody swapped", y.of(0, 3), 0);
    }
}
