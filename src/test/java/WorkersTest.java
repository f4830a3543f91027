/** Promises 5 to 11: chiefs, workers, what is of them, moves, new ones. */
public final class WorkersTest {
    private static final int NONE = ChiefGrades.NONE, BAD = ChiefGrades.BAD, FULL = ChiefGrades.FULL;
    private static final int LEAST = Integer.MIN_VALUE, GREATEST = Integer.MAX_VALUE;

    public static void main(String[] args) {
        chief();
        ofEachKind();
        worker();
        of();
        by();
        move();
        set();
        fresh();
        Check.end("WorkersTest");
    }

    private static void chief() {
        ChiefGrades x = new ChiefGrades();
        Check.due("5: kind 7", x.chief(7, 0, 0), NONE);
        Check.due("5: kind -1", x.chief(-1, 0, 0), NONE);
        Check.due("5: least kind", x.chief(LEAST, 0, 0), NONE);
        Check.due("5: NONE ahead of BAD", x.chief(7, 10, 10), NONE);
        Check.due("5: v 10", x.chief(0, 10, 0), BAD);
        Check.due("5: v -1", x.chief(0, -1, 0), BAD);
        Check.due("5: desk 10", x.chief(0, 0, 10), BAD);
        Check.due("5: desk -1", x.chief(0, 0, -1), BAD);
        Check.due("5: nobody so far", x.count(1), 0);
        Check.due("5: first", x.chief(6, 9, 0), 0);
        Check.due("5: second", x.chief(0, 0, 9), 1);
        Check.due("5: third", x.chief(5, 9, 9), 2);
        Check.due("5: fourth", x.chief(3, 1, 2), 3);
        Check.due("5: fifth", x.chief(0, 0, 0), FULL);
        Check.due("5: BAD ahead of FULL", x.chief(0, 10, 0), BAD);
        Check.due("5: NONE ahead of FULL", x.chief(7, 0, 0), NONE);
        Check.due("5: four", x.count(1), 4);
    }

    /** Of each KIND with each v and each DESK: all three are as they were told. */
    private static void ofEachKind() {
        for (int kind = 0; kind < 7; kind++) {
            for (int v = 0; v < 10; v++) {
                ChiefGrades x = new ChiefGrades();
                for (int i = 0; i < 4; i++) x.chief(kind, v, (kind + v + 3 * i) % 10);
                for (int i = 0; i < 4; i++) {
                    Check.due("8: kind", x.by(i, 0), kind);
                    Check.due("8: v of kind " + kind, x.by(i, 1), v);
                    Check.due("8: desk of kind " + kind, x.by(i, 2), (kind + v + 3 * i) % 10);
                }
            }
        }
    }

    private static void worker() {
        ChiefGrades x = new ChiefGrades();
        Check.due("6: no chief", x.worker(0, 1, 1, 1), NONE);
        x.chief(0, 0, 0);
        Check.due("6: chief 1", x.worker(1, 1, 1, 1), NONE);
        Check.due("6: chief -1", x.worker(-1, 1, 1, 1), NONE);
        Check.due("6: NONE ahead of BAD", x.worker(1, 100, 100, 10), NONE);
        Check.due("6: worth 100", x.worker(0, 100, 1, 1), BAD);
        Check.due("6: worth -1", x.worker(0, -1, 1, 1), BAD);
        Check.due("6: late 100", x.worker(0, 1, 100, 1), BAD);
        Check.due("6: late -1", x.worker(0, 1, -1, 1), BAD);
        Check.due("6: desk 10", x.worker(0, 1, 1, 10), BAD);
        Check.due("6: desk -1", x.worker(0, 1, 1, -1), BAD);
        Check.due("6: nobody so far", x.count(0), 0);
        for (int i = 0; i < 10; i++) Check.due("6: number", x.worker(0, 99, 0, 9), i);
        Check.due("6: the eleventh", x.worker(0, 1, 1, 1), FULL);
        Check.due("6: BAD ahead of FULL", x.worker(0, 1, 1, 10), BAD);
        Check.due("6: NONE ahead of FULL", x.worker(1, 1, 1, 1), NONE);
        Check.due("6: ten", x.count(0), 10);
    }

    private static void of() {
        ChiefGrades x = new ChiefGrades();
        Check.house(x, "pay 3;more 6 w=1;less 40 w=0");
        x.chief(0, 0, 0);
        x.chief(1, 7, 0);
        x.worker(0, 5, 6, 7);
        x.worker(1, 88, 12, 3);
        int[] due = {88, 12, 1, 3, 0, 88 + 7 + 6, 5, 5};
        for (int what = 0; what < due.length; what++) Check.due("7: what " + what, x.of(1, what), due[what]);
        // the mean of the two is (-35 + 101) / 2 = 33, so that each is as if it were 33
        Check.due("7: levelled", x.of(1, 8), 2);
        Check.due("7: mark below 0", x.of(0, 5), -35);
        Check.due("7: due", x.of(0, 7), 1);
        x.year();
        Check.due("7: pay", x.of(1, 4), 15);
        Check.due("7: what 9", x.of(1, 9), -1001);
        Check.due("7: what -1", x.of(1, -1), -1001);
        Check.due("7: worker 2", x.of(2, 0), -1001);
        Check.due("7: worker -1", x.of(-1, 0), -1001);
        Check.due("7: greatest ints", x.of(GREATEST, GREATEST), -1001);
        Check.due("7: least ints", x.of(LEAST, LEAST), -1001);
    }

    private static void by() {
        ChiefGrades x = new ChiefGrades();
        x.chief(6, 8, 7);
        x.chief(2, 1, 0);
        for (int i = 0; i < 10; i++) x.worker(i % 3 == 0 ? 0 : 1, 1, 1, 1);
        int[] due = {6, 8, 7, 4, 1 + 8 + 64 + 512};
        for (int what = 0; what < 5; what++) Check.due("8: what " + what, x.by(0, what), due[what]);
        Check.due("8: the other team", x.by(1, 4), 1023 - 585);
        Check.due("8: its size", x.by(1, 3), 6);
        Check.due("8: what 5", x.by(0, 5), NONE);
        Check.due("8: what -1", x.by(0, -1), NONE);
        Check.due("8: chief 2", x.by(2, 0), NONE);
        Check.due("8: chief -1", x.by(-1, 0), NONE);
        Check.due("8: least ints", x.by(LEAST, LEAST), NONE);
    }

    private static void move() {
        ChiefGrades x = new ChiefGrades();
        x.chief(0, 0, 0);
        x.chief(0, 0, 0);
        x.worker(0, 1, 2, 3);
        x.worker(1, 4, 5, 6);
        Check.due("9: move", x.move(0, 1), 0);
        Check.due("9: it is there", x.of(0, 2), 1);
        Check.due("9: its desk stays", x.of(0, 3), 3);
        Check.due("9: the team", x.by(1, 4), 3);
        Check.due("9: to its own", x.move(0, 1), 1);
        Check.due("9: back", x.move(0, 0), 1);
        Check.due("9: worker 2", x.move(2, 0), NONE);
        Check.due("9: worker -1", x.move(-1, 0), NONE);
        Check.due("9: chief 2", x.move(0, 2), NONE);
        Check.due("9: chief -1", x.move(0, -1), NONE);
        Check.due("9: refused ones move nobody", x.of(0, 2), 0);
    }

    private static void set() {
        ChiefGrades x = new ChiefGrades();
        x.chief(0, 0, 0);
        x.worker(0, 11, 22, 3);
        x.worker(0, 44, 55, 6);
        Check.due("10: worth", x.set(0, 0, 99), 11);
        Check.due("10: late", x.set(0, 1, 0), 22);
        Check.due("10: desk", x.set(0, 2, 9), 3);
        int[] due = {99, 0, 0, 9};
        for (int what = 0; what < 4; what++) Check.due("10: is " + what, x.of(0, what), due[what]);
        int[] other = {44, 55, 0, 6};
        for (int what = 0; what < 4; what++) Check.due("10: the other's " + what, x.of(1, what), other[what]);
        Check.due("10: worth 100", x.set(0, 0, 100), BAD);
        Check.due("10: worth -1", x.set(0, 0, -1), BAD);
        Check.due("10: late 100", x.set(0, 1, 100), BAD);
        Check.due("10: desk 10", x.set(0, 2, 10), BAD);
        Check.due("10: desk -1", x.set(0, 2, -1), BAD);
        Check.due("10: late 99", x.set(0, 1, 99), 0);
        Check.due("10: what 3", x.set(0, 3, 1), NONE);
        Check.due("10: what -1", x.set(0, -1, 1), NONE);
        Check.due("10: worker 2", x.set(2, 0, 1), NONE);
        Check.due("10: NONE ahead of BAD", x.set(0, 3, 100), NONE);
        Check.due("10: NONE of a worker ahead of BAD", x.set(-1, 0, 100), NONE);
    }

    private static void fresh() {
        ChiefGrades x = new ChiefGrades();
        Check.due("11: at first", x.fresh(7, 8), 50);
        Check.due("11: then", x.fresh(99, 0), 7);
        Check.due("11: worth 100", x.fresh(100, 0), BAD);
        Check.due("11: worth -1", x.fresh(-1, 0), BAD);
        Check.due("11: late 100", x.fresh(0, 100), BAD);
        Check.due("11: late -1", x.fresh(0, -1), BAD);
        Check.due("11: worth stays", x.told(4), 99);
        Check.due("11: late stays", x.told(5), 0);
        x.fresh(70, 31);
        x.chief(0, 0, 0);
        x.worker(0, 10, 10, 1);
        Check.due("11: one is out", x.year(), 1);
        Check.due("11: worth of the new one", x.of(0, 0), 70);
        Check.due("11: late of the new one", x.of(0, 1), 31);
    }
}
