import java.util.function.Supplier;

/** Edges of MARKS, of what a TEST looks at, and of the step from a MARK to a GRADE. */
public final class MarkEdgesTest {
    public static void main(String[] args) {
        kinds();
        desks();
        cuts();
        grades();
        farMarks();
        workersAndChiefs();
        teams();
        worthByTen();
        yearsByTen();
        relations();
        nobodysHouse();
        lastOnes();
        Check.end("MarkEdgesTest");
    }

    private static void mark(int kind, int v, int chiefsDesk, int worth, int late, int desk, int due) {
        ChiefGrades x = new ChiefGrades();
        x.chief(kind, v, chiefsDesk);
        x.worker(0, worth, late, desk);
        String what = "kind " + kind + " v " + v + " worth " + worth + " late " + late;
        Check.due("12: " + what, x.mark(0, 0), due);
        Check.due("7: " + what, x.of(0, 5), due);
    }

    /** v, WORTH and LATE (v 0 .. 9, WORTH and LATE 0 .. 99) at their ends. */
    private static void kinds() {
        for (int kind : new int[] {0, 2, 5}) {
            mark(kind, 9, 0, 0, 99, 0, 0);
            mark(kind, 9, 0, 99, 0, 0, 99);
        }
        mark(1, 0, 0, 0, 99, 0, 0);
        mark(1, 9, 0, 0, 99, 0, 9);
        mark(1, 9, 0, 99, 0, 0, 108);
        mark(3, 0, 0, 99, 0, 0, 99);
        mark(3, 0, 0, 0, 99, 0, 0);
        mark(3, 9, 0, 99, 0, 0, 9);
        mark(3, 9, 0, 0, 99, 0, 89);
        mark(3, 9, 0, 99, 99, 0, 99);
        mark(3, 9, 0, 0, 0, 0, 0);
        mark(6, 0, 0, 99, 0, 0, 99);
        mark(6, 0, 0, 0, 99, 0, 0);
        mark(6, 9, 0, 99, 0, 0, 9 + 18);
        mark(6, 9, 0, 0, 99, 0, 89 + 18);
        mark(6, 9, 0, 99, 99, 0, 99 + 18);
        mark(6, 1, 0, 50, 50, 0, 50 + 2);
    }

    /** "9 less how far the two DESKS are apart": from 0 apart to 9. */
    private static void desks() {
        for (int one = 0; one < 10; one++) {
            for (int other = 0; other < 10; other++) {
                int apart = one > other ? one - other : other - one;
                mark(4, 0, one, 50, 99, other, 50 + 9 - apart);
                mark(4, 9, one, 50, 99, other, 50 + 9 + 9 - apart);
                mark(1, 9, one, 50, 99, other, 50 + 9);
                mark(6, 9, one, 50, 50, other, 50 + 18);
            }
        }
    }

    /** "together, by 10 (cut)". */
    private static void cuts() {
        mark(3, 5, 0, 1, 0, 0, 0);
        mark(3, 5, 0, 1, 1, 0, 1);
        mark(3, 5, 0, 0, 1, 0, 0);
        mark(3, 5, 0, 3, 0, 0, 1);
        mark(3, 5, 0, 2, 1, 0, 1);
        mark(3, 9, 0, 0, 1, 0, 0);
        mark(3, 9, 0, 1, 1, 0, 1);
        mark(3, 1, 0, 1, 0, 0, 0);
        mark(3, 1, 0, 1, 1, 0, 1);
        mark(3, 1, 0, 1, 11, 0, 2);
        mark(3, 1, 0, 1, 10, 0, 1);
        mark(6, 9, 0, 9, 9, 0, 9 + 18);
        mark(6, 9, 0, 10, 9, 0, 9 + 18);
        mark(6, 9, 0, 9, 10, 0, 9 + 18);
        mark(6, 9, 0, 10, 10, 0, 10 + 18);
    }

    /** "5 from 80 on, 4 from 60 on, 3 from 40 on, 2 from 20 on, else 1". */
    private static void grades() {
        for (int mark = 0; mark < 100; mark++) {
            ChiefGrades x = new ChiefGrades();
            x.chief(0, 0, 0);
            x.worker(0, mark, 0, 0);
            int due = mark < 20 ? 1 : mark < 40 ? 2 : mark < 60 ? 3 : mark < 80 ? 4 : 5;
            Check.due("7: grade of mark " + mark, x.of(0, 6), due);
            Check.due("7: due of mark " + mark, x.of(0, 7), due);
            Check.due("7: levelled grade of mark " + mark, x.of(0, 8), due);
            Check.due("13: sum of mark " + mark, x.wrong(2), due);
            Check.due("14: moved to its own, mark " + mark, x.moved(0, 0), due);
        }
    }

    /** "n of all more .., less those of all less": ten CLAUSES of 99 are far beyond 0 and 99. */
    private static void farMarks() {
        String ten = ";less 99 w=0".repeat(7).substring(1);
        ChiefGrades x = new ChiefGrades();
        Check.due("3: seven clauses", Check.house(x, ten), 0);
        x.chief(0, 0, 0);
        x.worker(0, 0, 0, 0);
        Check.due("12: far below 0", x.mark(0, 0), -693);
        Check.due("7: its grade", x.of(0, 6), 1);
        Check.due("7: its due", x.of(0, 7), 1);
        Check.house(x, ten.replace("less", "more"));
        x.set(0, 0, 99);
        Check.due("12: far above 99", x.mark(0, 0), 99 + 693);
        Check.due("7: its grade", x.of(0, 6), 5);
        Check.house(x, "more 99 w=0;less 99 w=0;more 0 w=0");
        Check.due("12: more and less alike", x.mark(0, 0), 99);
        Check.house(x, "one 0;one 0;more 1 w<1;more 2 w<1;more 4 w<1;more 8 w<1;more 16 w<1;less 2 w<1;pay 5;more 32 w<1");
        Check.due("12: of ten clauses the first and the last count, too", x.mark(0, 0), 99 + 31 - 2 + 32);
    }

    private static void holds(Supplier<ChiefGrades> scene, int worker, int chief, String e) {
        ChiefGrades x = scene.get();
        Check.house(x, "more 1 " + e);
        int with = x.mark(worker, chief);
        Check.house(x, "more 0 " + e);
        Check.due("3: " + e + " of " + worker + " by " + chief, with - x.mark(worker, chief), 1);
    }

    private static ChiefGrades one(int kind, int worth, int late) {
        ChiefGrades x = new ChiefGrades();
        x.chief(kind, 9, 9);
        x.worker(0, worth, late, 0);
        return x;
    }

    /** w 0 .. 9, c 0 .. 3, k 0 .. 6: each by its number, and by neither neighbour. */
    private static void workersAndChiefs() {
        for (int c = 0; c < 4; c++) {
            Supplier<ChiefGrades> x = () -> Scene.of(4, 10);
            for (int w = 0; w < 10; w++) {
                holds(x, w, c, "w=" + w + "&!w<" + w + "&!w>" + w + "&w<" + (w + 1));
                if (w > 0) holds(x, w, c, "w>" + (w - 1) + "&!w=" + (w - 1));
                holds(x, w, c, "c=" + c + "&!c<" + c + "&!c>" + c + "&c<" + (c + 1));
            }
        }
        for (int i = 0; i < 7; i++) {
            int kind = i;
            holds(() -> one(kind, 50, 50), 0, 0, "k=" + kind + "&!k<" + kind + "&!k>" + kind + "&k<" + (kind + 1));
        }
    }

    /** t: none in the TEAM, all ten, and the TEAM as it is for a MARK by another CHIEF. */
    private static void teams() {
        for (int i = 0; i <= 10; i++) {
            int size = i;
            Supplier<ChiefGrades> x = () -> twoTeams(size);
            for (int w = 0; w < 10; w++) {
                holds(x, w, 1, "t=" + size + "&!t<" + size + "&!t>" + size + "&t<" + (size + 1));
                holds(x, w, 0, "t=" + (10 - size));
            }
        }
    }

    private static ChiefGrades twoTeams(int ofTheSecond) {
        ChiefGrades x = new ChiefGrades();
        x.chief(0, 0, 0);
        x.chief(0, 0, 0);
        for (int w = 0; w < 10; w++) x.worker(w < ofTheSecond ? 1 : 0, 50, 50, 0);
        return x;
    }

    /** b: WORTH by 10 (cut), whatever the KIND makes of LATE. */
    private static void worthByTen() {
        for (int i = 0; i < 100; i++) {
            int worth = i;
            holds(() -> one(6, worth, 99 - worth), 0, 0, "b=" + worth / 10);
        }
    }

    /** y: THE YEAR modulo 10, from 0 to YEAR 99. */
    private static void yearsByTen() {
        ChiefGrades x = new ChiefGrades();
        x.chief(0, 0, 0);
        x.worker(0, 50, 50, 0);
        Check.house(x, "more 1 y=1;more 2 y=2;more 4 y=3|y=7;more 9 y=9;less 7 y=0;more 30 y>9");
        int[] due = {-7, 1, 2, 4, 0, 0, 0, 4, 0, 9};
        for (int year = 0; year < 100; year++) {
            Check.due("18: year " + year, x.told(3), year);
            Check.due("12: in the year " + year, x.mark(0, 0), 50 + due[year % 10]);
            x.year();
        }
    }

    /** < and > leave out the number itself; 0 and 99 are numbers, too. */
    private static void relations() {
        Supplier<ChiefGrades> x = () -> Scene.of(4, 10);
        for (String letter : new String[] {"w", "c", "k", "b", "y", "t"}) {
            holds(x, 0, 0, letter + "<99&!" + letter + ">99&!" + letter + "=99&!" + letter + "<0");
        }
        holds(x, 0, 0, "w=0&!w>0&!w<0&w<1&!w=1");
        holds(x, 9, 3, "w=9&w>8&!w>9&w<10&c=3&c>2&!c>3&c<4");
    }

    /** "without one there are no CLAUSES": five 10, one 0, pay 10, and no MARK is more or less. */
    private static void nobodysHouse() {
        ChiefGrades x = new ChiefGrades();
        x.chief(0, 0, 0);
        for (int w = 0; w < 10; w++) x.worker(0, 99, 0, 0);
        for (int w = 0; w < 10; w++) Check.due("12: without a house", x.mark(w, 0), 99);
        Check.due("13: all may have a 5, none has a 1 by share", x.wrong(2), 50);
        Check.due("19: pay without a house", x.years(1, 0, 10), 50);
        Check.house(x, "more 1 w=0");
        Check.due("13: a house that tells none of them", x.wrong(2), 50);
        Check.due("19: pay by a house that tells none", x.years(1, 0, 19), 50);
        Check.house(x, "five");
        Check.due("12: a FAULT leaves the house that held", x.mark(0, 0), 100);
        Check.house(x, "pay 0");
        Check.due("12: the newest one holds, alone", x.mark(0, 0), 99);
    }

    /** "Of five (10 without), one (0), pay (10) the last n holds": the least, the greatest, again. */
    private static void lastOnes() {
        String[] words = {"five", "one", "pay"};
        int[] without = {10, 0, 10};
        for (int i = 0; i < 3; i++) {
            for (int n : new int[] {0, 1, 9, 10, 11, 98, 99}) {
                ChiefGrades x = new ChiefGrades();
                Check.due("4: without a house", x.told(i), without[i]);
                Check.house(x, words[i] + " " + n);
                Check.due("4: " + words[i] + " " + n, x.told(i), n);
                Check.house(x, words[i] + " 50;" + words[i] + " " + n);
                Check.due("4: the last, " + words[i] + " " + n, x.told(i), n);
                Check.house(x, "more " + n + " w=0");
                for (int k = 0; k < 3; k++) Check.due("4: a house without " + words[k], x.told(k), without[k]);
            }
        }
    }
}
