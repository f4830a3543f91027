import java.lang.reflect.Field;

/** What is empty, what has room for one more, what is full: then one more, an image, and room again. */
public final class FullTest {
    private static final int NONE = ChiefGrades.NONE, STATE = ChiefGrades.STATE, FULL = ChiefGrades.FULL;
    private static final long NO = ChiefGrades.NO;

    public static void main(String[] args) throws Exception {
        empty();
        emptyTape();
        chiefsAlone();
        tape();
        tapeOfAll();
        workers();
        chiefs();
        houses();
        faultsTakeNoHouse();
        book();
        trace();
        fullTrace();
        imageOfFull();
        imageOfImage();
        imageOfTape();
        imageOfEmpty();
        images();
        Check.end("FullTest");
    }

    /** "Nobody, no HOUSE": every call that can be asked, and all that is refused. */
    private static void empty() {
        ChiefGrades x = new ChiefGrades();
        long[] before = Look.at(x);
        for (int w = 0; w < 2; w++) {
            for (int what = 0; what < 9; what++) Check.due("7: nobody", x.of(w, what), -1001);
            for (int what = 0; what < 2; what++) Check.due("15: nobody", x.best(w, what), NONE);
            for (int what = 0; what < 3; what++) Check.due("10: nobody", x.set(w, what, 1), NONE);
            Check.due("9: nobody", x.move(w, 0), NONE);
            Check.due("12: nobody", x.mark(w, 0), -1001);
            Check.due("14: nobody", x.moved(w, 0), NONE);
            Check.due("21: nobody", x.book(w, 0, 1), NONE);
            Check.due("6: nobody's worker", x.worker(w, 1, 1, 1), NONE);
            for (int what = 0; what < 5; what++) Check.due("8: nobody", x.by(w, what), NONE);
            Check.due("16: nobody", x.asked(w, 1), NONE);
            Check.due("23: nobody", x.nets(w), NONE);
            Check.due("24: nobody", x.leans(w, 1 - w, 0), NO);
            Check.due("28: nobody", x.as(w, 0), NONE);
            for (int act = 0; act < 3; act++) Check.due("26: nobody", x.act(w, act, 9), 0);
        }
        for (int what = 0; what < 3; what++) Check.due("13: nobody", x.wrong(what), 0);
        Check.due("17: nobody", x.swap(0), 0);
        Check.due("17: nobody first", x.swap(1), -5);
        Check.due("23: no nets", x.nets(-1), 0);
        Check.due("25: no rows", x.looked(), -5);
        Check.due("22: no rows", x.clear(), 0);
        Check.due("27: no act", x.trace(0), NONE);
        Check.due("31: no bodies", x.count(5), 0);
        Check.due("30: no image", x.undo(), STATE);
        Look.same("1: a new object, asked", x, before);
    }

    /** An empty TAPE ends too early, at its size, which is 0; so does one that house() emptied. */
    private static void emptyTape() {
        ChiefGrades x = new ChiefGrades();
        Check.due("3: an empty TAPE", x.house(), -10);
        Check.due("3: once more", x.house(), -10);
        Check.due("31: no house", x.count(2), 0);
        Check.due("3: a house", Check.house(x, "five 1"), 0);
        Check.due("3: an empty TAPE behind a house", x.house(), -10);
        Check.due("4: it holds still", x.told(0), 1);
        Check.due("3: a FAULT", Check.house(x, "x"), -10);
        Check.due("3: an empty TAPE behind a FAULT", x.house(), -10);
        Check.due("2: from 1 on", x.feed('o'), 1);
    }

    private static void chiefsAlone() {
        for (int many = 1; many <= 4; many++) {
            ChiefGrades x = Scene.of(many, 0);
            Check.due("31: chiefs", x.count(1), many);
            Check.due("23: each alone", x.nets(-1), many);
            for (int c = 0; c < many; c++) {
                Check.due("23: one alone", x.nets(c), 1 << c);
                Check.due("8: no team", x.by(c, 4), 0);
            }
            Check.due("12: nobody there", x.mark(0, 0), -1001);
            Check.due("13: no grades", x.wrong(2), 0);
            Check.due("18: nobody out", x.year(), 0);
        }
    }

    private static void tape() {
        ChiefGrades x = new ChiefGrades();
        String text = Scene.hundred();
        for (int i = 0; i < 99; i++) Check.due("2: sign", x.feed(text.charAt(i)), i + 1);
        x.image();
        Check.due("2: the hundredth", x.feed('7'), 100);
        Check.due("2: one more", x.feed('7'), FULL);
        Check.due("2: and again", x.feed(0), FULL);
        Check.due("31: a hundred", x.count(4), 100);
        Check.due("3: it is a house", x.house(), 0);
        Check.due("4: its last sign", x.told(2), 7);
        Check.due("2: room again", x.feed('p'), 1);
        x.undo();
        Check.due("30: ninety-nine", x.count(4), 99);
        Check.due("2: another hundredth", x.feed('8'), 100);
        Check.due("3: it is another house", x.house(), 0);
        Check.due("4: another last sign", x.told(2), 8);
    }

    /** Every sign from 0 to 127 can stand on THE TAPE, at its first and at its last place. */
    private static void tapeOfAll() {
        for (int sign = 0; sign < 128; sign++) {
            ChiefGrades x = new ChiefGrades();
            Check.due("2: sign " + sign, x.feed(sign), 1);
            for (int i = 0; i < 98; i++) x.feed(sign);
            Check.due("2: the hundredth " + sign, x.feed(sign), 100);
            Check.due("2: one more " + sign, x.feed(sign), FULL);
            int fault = "mlfop".indexOf(sign) >= 0 ? 1 : 0;
            Check.due("3: a tape of " + sign, x.house(), -10 - fault);
            Check.due("3: room again", x.feed(sign), 1);
        }
    }

    private static void workers() {
        ChiefGrades x = Scene.of(4, 9);
        x.image();
        Check.due("6: the tenth", x.worker(3, 99, 98, 9), 9);
        long[] before = Look.at(x);
        Check.due("6: one more", x.worker(0, 1, 1, 1), FULL);
        Look.same("6: one more", x, before);
        int[] due = {99, 98, 3, 9, 0};
        for (int what = 0; what < 5; what++) Check.due("7: of the tenth " + what, x.of(9, what), due[what]);
        Check.due("7: an eleventh", x.of(10, 0), -1001);
        x.undo();
        Check.due("6: the tenth again", x.worker(0, 7, 8, 9), 9);
        Check.due("7: its worth", x.of(9, 0), 7);
        Check.due("6: one more again", x.worker(0, 1, 1, 1), FULL);
    }

    private static void chiefs() {
        ChiefGrades x = Scene.of(3, 10);
        x.image();
        Check.due("5: the fourth", x.chief(6, 9, 8), 3);
        long[] before = Look.at(x);
        Check.due("5: one more", x.chief(0, 0, 0), FULL);
        Look.same("5: one more", x, before);
        int[] due = {6, 9, 8, 0, 0};
        for (int what = 0; what < 5; what++) Check.due("8: of the fourth " + what, x.by(3, what), due[what]);
        Check.due("8: a fifth", x.by(4, 0), NONE);
        x.undo();
        Check.due("5: the fourth again", x.chief(1, 2, 3), 3);
        Check.due("8: its kind", x.by(3, 0), 1);
        Check.due("5: one more again", x.chief(0, 0, 0), FULL);
    }

    /** "HOUSES .. 5 at most"; FULL ahead of all; with an image of fewer there is room again. */
    private static void houses() {
        ChiefGrades x = new ChiefGrades();
        for (int i = 0; i < 4; i++) Check.due("3: house", Check.house(x, "pay " + i), i);
        x.image();
        Check.due("3: the fifth", Check.house(x, "pay 4"), 4);
        Check.due("3: one more", Check.house(x, "pay 5"), FULL);
        Check.due("4: the fifth holds", x.told(2), 4);
        Check.due("31: five", x.count(2), 5);
        Check.due("31: the signs stay", x.count(4), 5);
        x.undo();
        Check.due("31: four", x.count(2), 4);
        Check.due("31: no signs", x.count(4), 0);
        Check.due("4: the fourth holds", x.told(2), 3);
        Check.due("3: another fifth", Check.house(x, "pay 6"), 4);
        Check.due("4: it holds", x.told(2), 6);
        Check.due("3: one more again", Check.house(x, "pay 5"), FULL);
    }

    private static void faultsTakeNoHouse() {
        ChiefGrades x = new ChiefGrades();
        for (int i = 0; i < 4; i++) Check.house(x, "pay " + i);
        for (int i = 0; i < 9; i++) Check.due("3: a FAULT", Check.house(x, "pay x"), -14);
        Check.due("31: four", x.count(2), 4);
        Check.due("3: the fifth", Check.house(x, "pay 9"), 4);
        Check.due("3: a FAULT, but FULL", Check.house(x, "pay x"), FULL);
    }

    private static void book() {
        ChiefGrades x = Scene.of(4, 10);
        for (int i = 0; i < 19; i++) Check.due("21: row", x.book(0, 0, x.moved(0, 0)), i + 1);
        x.image();
        Check.due("25: all right so far", x.looked(), -5);
        int other = x.moved(9, 3) % 5 + 1;
        Check.due("21: the twentieth", x.book(9, 3, other), 20);
        long[] before = Look.at(x);
        Check.due("21: one more", x.book(1, 1, 1), FULL);
        Look.same("21: one more", x, before);
        Check.due("25: the twentieth is not right", x.looked(), 19);
        Check.due("22: all are gone", x.clear(), 20);
        Check.due("22: none", x.clear(), 0);
        Check.due("21: room again", x.book(1, 1, 1), 1);
        x.undo();
        Check.due("31: nineteen", x.count(3), 19);
        Check.due("21: another twentieth", x.book(0, 3, 5), 20);
        Check.due("23: it joins", x.nets(0), 9);
        Check.due("24: it counts", x.leans(3, 0, 0), 5 - x.moved(0, 0));
        Check.due("21: one more again", x.book(0, 3, 5), FULL);
    }

    /** THE TRACE keeps the first 20; seven bodies are the most that an act runs. */
    private static void trace() {
        int most = 0;
        for (int kind = 0; kind < 7; kind++) {
            ChiefGrades x = new ChiefGrades();
            x.chief(kind, 9, 9);
            for (int act = 0; act < 3; act++) {
                x.act(0, act, 1);
                int bodies = x.count(5);
                for (int i = 0; i < 25; i++) Check.due("27: i " + i, x.trace(i) == NONE ? 1 : 0, i < bodies ? 0 : 1);
                most = Math.max(most, bodies);
            }
        }
        Check.due("27: the most bodies", most, 7);
        int[] due = {41, 3, 2, 11, 1, 11, 1};
        ChiefGrades x = new ChiefGrades();
        x.chief(4, 0, 0);
        for (int n = 0; n < 30; n++) {
            x.act(0, 2, n);
            Check.due("31: seven each time", x.count(5), 7);
            for (int i = 0; i < 7; i++) Check.due("27: body " + i, x.trace(i), due[i]);
        }
        x.act(0, 0, 1);
        Check.due("31: two", x.count(5), 2);
        Check.due("27: the third is gone", x.trace(2), NONE);
    }

    /** "the first 20 are kept": no act runs so many bodies, so here they are begun by hand. */
    private static void fullTrace() throws Exception {
        Field trace = ChiefGrades.class.getDeclaredField("ran");
        trace.setAccessible(true);
        for (int bodies : new int[] {1, 19, 20, 21, 50}) {
            ChiefGrades x = new ChiefGrades();
            ChiefGrades.Trace ran = (ChiefGrades.Trace) trace.get(x);
            for (int i = 0; i < bodies; i++) ran.begin(100 + i);
            Check.due("31: all, kept or not", x.count(5), bodies);
            for (int i = -1; i < 60; i++) {
                boolean isKept = i >= 0 && i < bodies && i < 20;
                Check.due("27: body " + i + " of " + bodies, x.trace(i), isKept ? 100 + i : NONE);
            }
            x.chief(0, 0, 0);
            x.act(0, 0, 1);
            Check.due("31: the latest act's alone", x.count(5), 1);
            Check.due("27: the first", x.trace(0), 1);
            Check.due("27: and no second", x.trace(1), NONE);
        }
    }

    /** All full, then all otherwise, then all as it was: the last of each, too. */
    private static void imageOfFull() {
        ChiefGrades x = Scene.full();
        long[] before = Look.at(Scene.full());
        Check.due("29: ten", x.image(), 10);
        x.house();
        x.clear();
        for (int i = 0; i < 20; i++) x.book(i % 3, i % 2, 2 + i % 2);
        for (int w = 0; w < 10; w++) {
            x.move(w, w < 5 ? 1 : 2);
            for (int what = 0; what < 3; what++) x.set(w, what, 1);
        }
        x.fresh(1, 2);
        for (int i = 0; i < 3; i++) x.year();
        Check.due("30: ten", x.undo(), 10);
        x.act(3, 2, 7);
        Look.same("30: all full again", x, before);
    }

    private static void imageOfImage() {
        ChiefGrades x = Scene.full();
        x.image();
        long[] before = Look.at(x);
        x.undo();
        x.image();
        x.undo();
        Look.same("30: an image of an image", x, before);
    }

    /** A hundred signs come back, the first and the last one, too. */
    private static void imageOfTape() {
        ChiefGrades x = new ChiefGrades();
        String text = Scene.hundred();
        Check.feed(x, text);
        x.image();
        Check.due("3: a house", x.house(), 0);
        Check.due("4: its last sign", x.told(2), 7);
        for (int i = 0; i < 100; i++) x.feed('8');
        x.undo();
        Check.due("30: a hundred signs", x.count(4), 100);
        Check.due("2: no more", x.feed('8'), FULL);
        Check.due("3: the house again", x.house(), 0);
        Check.due("4: its last sign again", x.told(2), 7);
    }

    /** Signs, houses, chiefs, workers, rows, years that come behind an empty image are gone. */
    private static void imageOfEmpty() {
        ChiefGrades x = new ChiefGrades();
        long[] before = Look.at(x);
        Check.due("29: nobody", x.image(), 0);
        Check.house(x, "five 1;one 2;pay 3;more 4 w=0");
        x.chief(5, 0, 0);
        for (int w = 0; w < 10; w++) x.worker(0, 90, 90, 9);
        x.book(0, 0, 1);
        x.fresh(3, 4);
        x.year();
        Check.feed(x, "one 1");
        Check.due("30: nobody", x.undo(), 0);
        Look.same("30: all empty again", x, before);
        Check.due("3: no signs", x.house(), -10);
        x.chief(0, 0, 0);
        x.worker(0, 50, 50, 0);
        Check.due("12: no house's more", x.mark(0, 0), 50);
        Check.due("3: the first house again", Check.house(x, "pay 1"), 0);
        Check.due("30: nobody again", x.undo(), 0);
        Look.same("30: all empty once more", x, before);
    }

    /** The latest image alone holds; it stays till the next one is taken. */
    private static void images() {
        ChiefGrades x = new ChiefGrades();
        x.chief(0, 0, 0);
        for (int w = 0; w < 10; w++) {
            Check.due("29: so many", x.image(), w);
            x.worker(0, w, w, w);
            Check.due("30: so many", x.undo(), w);
            Check.due("7: gone", x.of(w, 0), -1001);
            Check.due("6: there again", x.worker(0, w, w, w), w);
        }
        Check.due("29: ten", x.image(), 10);
        x.set(0, 0, 77);
        for (int i = 0; i < 3; i++) {
            Check.due("30: ten", x.undo(), 10);
            Check.due("7: as it was", x.of(0, 0), 0);
            x.set(0, 0, 77);
        }
        x.image();
        x.undo();
        Check.due("7: as it is by now", x.of(0, 0), 77);
    }
}
