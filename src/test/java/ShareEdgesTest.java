/** Edges of FIVES, ONES, TURNING, KEEPING, LEVELLED, DUE, and of what is told by them. */
public final class ShareEdgesTest {
    public static void main(String[] args) {
        fives();
        ones();
        both();
        turning();
        keeping();
        keptElsewhere();
        emptyTeams();
        means();
        dues();
        bits();
        desks();
        best();
        asked();
        swap();
        Check.end("ShareEdgesTest");
    }

    private static ChiefGrades team(String house, int kind, int v, int size, int worth, int step) {
        ChiefGrades x = new ChiefGrades();
        Check.due("3: " + house, Check.house(x, house), 0);
        x.chief(kind, v, 0);
        for (int w = 0; w < size; w++) x.worker(0, worth + step * w, 0, 0);
        return x;
    }

    /** So many YEARS on; new ones are as good as those who are out. */
    private static ChiefGrades inYear(int year, ChiefGrades x) {
        x.fresh(90, 0);
        for (int i = 0; i < year; i++) x.year();
        return x;
    }

    private static int withGrade(ChiefGrades x, int grade) {
        int bits = 0;
        for (int w = 0; w < x.count(0); w++) {
            if (x.of(w, 6) == grade) bits |= 1 << w;
        }
        return bits;
    }

    // of sizes 0 to 10 (a row each) by n 0 to 10 (a digit each, a for ten): n times the size by 10, cut
    private static final String[] SHARES = {"00000000000", "00000000001", "00000111112", "00001112223", "00011222334",
        "00112233445", "00112334456", "00122344567", "00123445678", "00123456789", "0123456789a"};

    private static int share(int size, int n) {
        return Character.digit(SHARES[size].charAt(n), 16);
    }

    private static int first(int many) {
        return (1 << many) - 1;
    }

    /** "as many as five times its size by 10 (cut)"; of several first the least number. */
    private static void fives() {
        for (int size = 1; size <= 10; size++) {
            for (int n = 0; n <= 10; n++) {
                String what = "7: five " + n + " of " + size;
                int many = share(size, n);
                ChiefGrades like = team("five " + n, 0, 0, size, 85, 0);
                Check.due(what + ", like marks", withGrade(like, 5), first(many));
                Check.due(what + ", the others", withGrade(like, 4), first(size) - first(many));
                ChiefGrades rising = team("five " + n, 0, 0, size, 80, 1);
                Check.due(what + ", rising marks", withGrade(rising, 5), first(size) - first(size - many));
                Check.due(what + ", who would have less", withGrade(team("five " + n, 0, 0, size, 79, 0), 4), first(size));
            }
            for (int n : new int[] {11, 19, 20, 98, 99}) {
                Check.due("7: five " + n + " of " + size, withGrade(team("five " + n, 0, 0, size, 85, 0), 5), first(size));
            }
        }
        // who is among the greatest and would not have a 5 leaves its place to nobody
        ChiefGrades x = team("five 2", 0, 0, 10, 79, 0);
        x.set(3, 0, 80);
        Check.due("7: one of two", withGrade(x, 5), 8);
        x.set(7, 0, 80);
        x.set(9, 0, 80);
        Check.due("7: two of three like ones, first the least numbers", withGrade(x, 5), 8 + 128);
    }

    /** "as many as one times its size by 10 (cut; no more than there are)"; first the greatest number. */
    private static void ones() {
        for (int size = 1; size <= 10; size++) {
            for (int n = 0; n <= 10; n++) {
                String what = "7: one " + n + " of " + size;
                int many = share(size, n);
                ChiefGrades like = team("one " + n, 0, 0, size, 85, 0);
                Check.due(what + ", like marks", withGrade(like, 1), first(size) - first(size - many));
                Check.due(what + ", the others", withGrade(like, 5), first(size - many));
                Check.due(what + ", rising marks", withGrade(team("one " + n, 0, 0, size, 80, 1), 1), first(many));
                Check.due(what + ", who are out", team("one " + n, 0, 0, size, 85, 0).year(), many);
            }
            for (int n : new int[] {11, 19, 20, 98, 99}) {
                for (int kind : new int[] {0, 2, 5}) {
                    ChiefGrades x = team("one " + n, kind, 0, size, 85, 0);
                    Check.due("7: one " + n + " of " + size + ", kind " + kind, withGrade(x, 1), first(size));
                }
            }
        }
    }

    /** FIVES first, "then ONES .. have a 1 whatever they had". */
    private static void both() {
        Check.due("7: all fives, all ones", withGrade(team("five 10;one 10", 0, 0, 10, 90, 0), 1), 1023);
        ChiefGrades x = team("five 5;one 5", 2, 0, 10, 90, 0);
        Check.due("7: those who had a 5 have a 1", withGrade(x, 1), 31);
        Check.due("7: nobody has their 5", withGrade(x, 5), 0);
        Check.due("7: the others", withGrade(x, 4), 1023 - 31);
        ChiefGrades y = team("one 3", 0, 0, 10, 5, 0);
        Check.due("7: a 1 by MARK stays a 1", withGrade(y, 1), 1023);
        // the greatest number of like ones, and of unlike ones the least mark
        ChiefGrades z = team("one 2", 0, 0, 10, 50, 0);
        z.set(0, 0, 40);
        Check.due("7: the least mark, then the greatest number", withGrade(z, 1), 1 + 512);
    }

    /** "THE YEAR modulo the size, and on, and round": of team 0 .. size - 1 with one 3. */
    private static void turning() {
        for (int size = 1; size <= 10; size++) {
            for (int year = 0; year <= 99; year++) {
                int due = 0, place = year % size;
                for (int i = 0; i < share(size, 3); i++) {
                    due |= 1 << place;
                    place = place == size - 1 ? 0 : place + 1;
                }
                ChiefGrades x = inYear(year, team("one 3;pay 0", 2, 9, size, 90, 0));
                Check.due("7: turning, " + size + " in the year " + year, withGrade(x, 1), due);
            }
        }
        // years by a way that go beyond YEAR 99: in the years 99, 100, 101 the places 3, 0, 1 of four
        ChiefGrades x = inYear(99, team("one 3;pay 1", 2, 0, 4, 90, 0));
        int[] due = {1 + 5 + 5 + 5, 5 + 1 + 5 + 5, 5 + 5 + 1 + 5, 5 + 5 + 5 + 1};
        int[] years = {100, 101, 102, 99};
        for (int w = 0; w < 4; w++) {
            int more = x.years(4, 1, 10 + w) - x.of(w, 4);
            Check.due("19: turning beyond YEAR 99, a 1 of " + w + " in " + years[w], more, due[w]);
            int until = years[w] - 99 + 1;
            Check.due("19: so far", x.years(until, 1, 10 + w) - x.of(w, 4), 5 * until - 4);
            Check.due("19: before that", x.years(until - 1, 1, 10 + w) - x.of(w, 4), 5 * until - 5);
        }
    }

    private static ChiefGrades keepers(int v, int year) {
        return inYear(year, team("one 5;pay 0", 5, v, 5, 90, 0));
    }

    /** Two ONES of five, kept is v: the other one goes by turns among the four others. */
    private static void keeping() {
        String[] others = {"1234", "0234", "0134", "0124", "0123"};
        for (int v = 0; v < 5; v++) {
            for (int year = 0; year < 23; year++) {
                int other = others[v].charAt(year % 4) - '0';
                Check.due("7: keeping " + v + " in the year " + year, withGrade(keepers(v, year), 1), 1 << v | 1 << other);
            }
        }
        int[] turns = {1 + 2, 2 + 4, 4 + 8, 8 + 16, 16 + 1};
        for (int v = 5; v < 10; v++) {
            for (int year = 0; year < 23; year++) {
                Check.due("7: keeping none, v " + v + " in the year " + year, withGrade(keepers(v, year), 1), turns[year % 5]);
            }
        }
        ChiefGrades ten = team("one 2", 5, 9, 10, 90, 0);
        Check.due("7: keeping the tenth", withGrade(ten, 1), 512 + 1);
        ten.year();
        Check.due("7: keeping the tenth, a year on", withGrade(ten, 1), 512 + 2);
        for (int i = 0; i < 98; i++) ten.year();
        Check.due("7: keeping the tenth, YEAR 99", ten.told(3), 99);
        Check.due("7: keeping the tenth, then the first of nine again", withGrade(ten, 1), 512 + 1);
        ChiefGrades two = team("one 5", 5, 0, 2, 90, 0);
        Check.due("7: keeping one of two", withGrade(two, 1), 1);
        ChiefGrades none = team("one 0", 5, 0, 10, 90, 0);
        Check.due("7: keeping, no share", withGrade(none, 1), 0);
        ChiefGrades less = team("one 4", 5, 0, 2, 90, 0);
        Check.due("7: keeping, a share cut to none", withGrade(less, 1), 0);
    }

    /** The WORKER whose number is v, but of another TEAM: as TURNING; once it comes, it is kept. */
    private static void keptElsewhere() {
        ChiefGrades x = new ChiefGrades();
        Check.house(x, "one 4;pay 0");
        x.chief(5, 0, 0);
        x.chief(0, 0, 0);
        for (int w = 0; w < 5; w++) x.worker(w == 0 ? 1 : 0, 90, 0, 0);
        Check.due("7: as turning", withGrade(x, 1), 2);
        Check.due("14: kept where it is moved to", x.moved(0, 0), 1);
        x.move(4, 1);
        x.move(0, 0);
        Check.due("7: it is kept", withGrade(x, 1), 1);
    }

    /** MOVED and SWAP: of who is moved the DESK stays, of who is swapped it goes along. */
    private static void desks() {
        ChiefGrades x = new ChiefGrades();
        x.chief(4, 0, 9);
        x.chief(4, 0, 0);
        x.worker(0, 71, 0, 0);
        x.worker(1, 71, 0, 9);
        // each has 71 as it is, since 9 apart; in the other's TEAM, but at its own DESK, 80
        Check.due("14: as it is", x.moved(0, 0), 4);
        Check.due("14: moved", x.moved(0, 1), 5);
        Check.due("14: the other, moved", x.moved(1, 0), 5);
        Check.due("15: the best move", x.best(0, 0), 1);
        Check.due("17: with the other's DESK each is as far off", x.swap(0), 0);
        x.move(0, 1);
        x.move(1, 0);
        Check.due("9: it moved with its DESK", x.of(0, 6), 5);
        Check.due("9: and the other", x.of(1, 6), 5);
        Check.due("9: its DESK", x.of(0, 3), 0);
    }

    /** CHIEFS without a TEAM are nowhere in the way, of LEVELLED too, nor in any mean. */
    private static void emptyTeams() {
        ChiefGrades x = new ChiefGrades();
        x.chief(5, 0, 0);
        x.chief(0, 0, 0);
        x.chief(2, 0, 0);
        x.chief(6, 0, 0);
        Check.due("13: no workers", x.wrong(0) + x.wrong(1) + x.wrong(2), 0);
        Check.due("18: no workers", x.year(), 0);
        for (int way = 0; way < 4; way++) {
            Check.due("19: no workers, worth", x.years(20, way, 0), 0);
            Check.due("19: no workers, outs", x.years(20, way, 1), 0);
        }
        for (int c = 0; c < 4; c++) {
            Check.due("8: no team", x.by(c, 3), 0);
            Check.due("8: no team, bits", x.by(c, 4), 0);
            Check.due("16: no team, 0", x.asked(c, 0), 0);
            Check.due("16: no team, 1", x.asked(c, 1), -5);
        }
        x.worker(3, 70, 0, 0);
        x.worker(3, 30, 0, 0);
        Check.due("7: levelled, one team", x.of(0, 8), 4);
        Check.due("7: levelled, one team, the other", x.of(1, 8), 2);
        x.move(0, 0);
        Check.due("7: levelled, two teams", x.of(0, 8), 3);
        Check.due("7: levelled, two teams, the other", x.of(1, 8), 3);
        Check.due("14: to an empty team", x.moved(1, 2), 2);
        Check.due("15: among empty teams", x.best(1, 0), 0);
        Check.due("17: with empty teams", x.swap(0), 0);
    }

    private static void levelled(String what, int markA, int markB, int markC, int dueA, int dueB, int dueC) {
        ChiefGrades x = new ChiefGrades();
        Check.house(x, "less 99 w<3;one 0");
        x.chief(0, 0, 0);
        x.chief(0, 0, 0);
        x.worker(0, markA + 99, 0, 0);
        x.worker(0, markB + 99, 0, 0);
        x.worker(1, markC + 99, 0, 0);
        Check.due("7: " + what + ", first", x.of(0, 8), dueA);
        Check.due("7: " + what + ", second", x.of(1, 8), dueB);
        Check.due("7: " + what + ", third", x.of(2, 8), dueC);
    }

    /** "(cut toward 0)": means below 0 and above it, of all and of a TEAM. */
    private static void means() {
        ChiefGrades x = new ChiefGrades();
        x.chief(0, 0, 0);
        x.chief(0, 0, 0);
        x.worker(0, 40, 0, 0);
        x.worker(0, 41, 0, 0);
        x.worker(1, 99, 0, 0);
        // of all 180 / 3 = 60, of the first 81 / 2 = 40 (cut): 60 and 61; of the other 99: 60
        Check.due("7: 20 more", x.of(0, 8), 4);
        Check.due("7: 39 less", x.of(2, 8), 4);
        x.set(2, 0, 98);
        // of all 179 / 3 = 59 (cut), 59 - 40 = 19: 59 and 60; 98 - 39
        Check.due("7: 19 more", x.of(0, 8), 3);
        Check.due("7: 19 more, second", x.of(1, 8), 4);
        Check.due("7: 39 less", x.of(2, 8), 3);
        ChiefGrades y = new ChiefGrades();
        Check.house(y, "less 99 w<2");
        y.chief(0, 0, 0);
        y.chief(0, 0, 0);
        y.worker(0, 0, 0, 0);
        y.worker(0, 98, 0, 0);
        y.worker(1, 99, 0, 0);
        // marks -99 -1 99: of all -1 / 3 = 0 (cut toward 0), of the first -100 / 2 = -50: -49 and 49; 0
        Check.due("7: mean of all from below", y.of(1, 8), 3);
        Check.due("7: mean of all from below, third", y.of(2, 8), 1);
        y.set(1, 0, 87);
        // marks -99 -12 99: of all -12 / 3 = -4, of the first -111 / 2 = -55 (cut toward 0): 51 more: 39
        Check.due("7: mean of a team from below", y.of(1, 8), 2);
        y.set(1, 0, 88);
        // marks -99 -11 99: of all -11 / 3 = -3 (cut toward 0), of the first -110 / 2 = -55: 52 more: 41
        Check.due("7: mean of both from below", y.of(1, 8), 3);
        levelled("all below", -99, -99, -99, 1, 1, 1);
    }

    /** DUE: one TEAM of a CHIEF of KIND 0, whatever the KINDS, the TEAMS, THE YEAR and the house's more. */
    private static void dues() {
        ChiefGrades x = new ChiefGrades();
        Check.house(x, "five 2;one 3;more 99 w=9;less 99 w=0;pay 0");
        x.chief(2, 0, 0);
        x.chief(5, 0, 9);
        x.chief(4, 9, 0);
        x.chief(6, 9, 0);
        for (int w = 0; w < 10; w++) x.worker(w % 4, 90, 10 * w, w);
        for (int year = 0; year < 2; year++) {
            for (int w = 0; w < 10; w++) {
                Check.due("7: due of like ones " + w, x.of(w, 7), w < 2 ? 5 : w < 7 ? 4 : 1);
            }
            x.fresh(90, 0);
            x.year();
        }
        for (int w = 0; w < 10; w++) x.set(w, 0, 99 - 10 * w);
        int[] due = {5, 5, 4, 4, 3, 3, 2, 1, 1, 1};
        for (int w = 0; w < 10; w++) Check.due("7: due of unlike ones " + w, x.of(w, 7), due[w]);
    }

    /** "as bits": none, the first, the tenth, all ten; the sum from 10 to 50. */
    private static void bits() {
        ChiefGrades x = team("less 99 w=9", 0, 0, 10, 99, 0);
        Check.due("13: the tenth is wrong", x.wrong(0), 512);
        Check.due("13: the tenth is low", x.wrong(1), 512);
        Check.due("13: the sum", x.wrong(2), 9 * 5 + 1);
        Check.due("8: all ten", x.by(0, 4), 1023);
        Check.due("8: how many", x.by(0, 3), 10);
        ChiefGrades y = team("less 99 w<10", 0, 0, 10, 99, 0);
        Check.due("13: all ten are wrong", y.wrong(0), 1023);
        Check.due("13: all ten are low", y.wrong(1), 1023);
        Check.due("13: the least sum of ten", y.wrong(2), 10);
        Check.house(y, "more 99 w=0");
        Check.due("13: none is wrong", y.wrong(0), 0);
        Check.due("13: the greatest sum", y.wrong(2), 50);
        ChiefGrades z = team("more 99 w<10", 0, 0, 10, 0, 0);
        Check.due("13: wrong, and not low", z.wrong(0), 1023);
        Check.due("13: none is low", z.wrong(1), 0);
    }

    /** "of several the least": four CHIEFS, the greatest at each place, alone and with later ones. */
    private static void best() {
        for (int c = 0; c < 4; c++) {
            for (int many = 1; c + many <= 4; many++) {
                ChiefGrades x = new ChiefGrades();
                for (int i = 0; i < 4; i++) x.chief(1, i >= c && i < c + many ? 9 : 1, 0);
                for (int w = 0; w < 4; w++) x.worker(w, 71, 0, 0);
                for (int w = 0; w < 4; w++) {
                    Check.due("15: the least of " + many + " from " + c, x.best(w, 0), c);
                    Check.due("15: its grade", x.best(w, 1), 5);
                }
            }
        }
        ChiefGrades one = team("one 10", 0, 0, 10, 99, 0);
        Check.due("15: one chief, all ones", one.best(9, 0), 0);
        Check.due("15: the grade of a one", one.best(9, 1), 1);
    }

    /** "0 .. 9 less v": up to 9 more from 0 on, none from 9 on; n 0 .. 50. */
    private static void asked() {
        for (int v = 0; v < 10; v++) {
            ChiefGrades x = team("one 0", 1, v, 1, 71, 0);
            Check.due("16: a 5 from v " + v, x.asked(0, 5), 9 - v);
            Check.due("16: a 4 from v " + v, x.asked(0, 4), 0);
            Check.due("16: a 0 from v " + v, x.asked(0, 0), 0);
            Check.due("16: a 6 from v " + v, x.asked(0, 6), -5);
            x.set(0, 0, 70);
            Check.due("16: just not, from v " + v, x.asked(0, 5), -5);
        }
        // NEAR: 71 and 9 less how far apart; its DESK stays, whatever its v becomes
        int[][] nears = {{0, 9, 9}, {9, 0, 9}, {0, 0, 0}, {9, 9, 0}, {3, 7, 4}, {7, 2, 5}};
        for (int[] n : nears) {
            ChiefGrades x = new ChiefGrades();
            x.chief(4, 0, n[0]);
            x.worker(0, 71, 0, n[1]);
            Check.due("16: near, " + n[0] + " and " + n[1], x.asked(0, 5), n[2]);
        }
        ChiefGrades ten = team("one 0", 1, 0, 10, 80, 0);
        Check.due("16: 50 of ten", ten.asked(0, 50), 0);
        ten.set(9, 0, 71);
        Check.due("16: 49 of ten", ten.asked(0, 49), 0);
        Check.due("16: 50 of ten by 9 more", ten.asked(0, 50), 9);
        ten.set(9, 0, 70);
        Check.due("16: 50 of ten by none", ten.asked(0, 50), -5);
    }

    /** Two WORKERS of WORTH 50, each of a CHIEF of its own. */
    private static ChiefGrades pair(String house) {
        ChiefGrades x = new ChiefGrades();
        Check.due("3: " + house, Check.house(x, house), 0);
        for (int c = 0; c < 2; c++) x.chief(0, 0, 0);
        for (int w = 0; w < 2; w++) x.worker(w, 50, 0, 0);
        return x;
    }

    /** The first pair by the lesser, then by the other number: from 0 and 1 to 8 and 9. */
    private static void swap() {
        for (int one = 0; one < 10; one++) {
            for (int other = one + 1; other < 10; other++) {
                ChiefGrades x = new ChiefGrades();
                Check.house(x, "more 20 w=" + one + "&c=1|w=" + other + "&c=0");
                x.chief(0, 0, 0);
                x.chief(0, 0, 0);
                for (int w = 0; w < 10; w++) x.worker(w == other ? 1 : 0, 50, 0, 0);
                Check.due("17: one pair", x.swap(0), 1);
                Check.due("17: " + one + " and " + other, x.swap(1), 10 * one + other);
            }
        }
        // "the GRADES of both were greater": than their GRADES, not than their DUES
        ChiefGrades below = pair("less 20 w<2;more 20 w=0&c=1|w=1&c=0");
        Check.due("17: from 2 to 3, due is 3", below.swap(0), 1);
        Check.due("17: these two", below.swap(1), 1);
        ChiefGrades above = pair("more 20 w=0&c=0|w=1&c=1;more 10 w=0&c=1|w=1&c=0");
        Check.due("17: from 4 to 4, due is 3", above.swap(0), 0);
        ChiefGrades all = new ChiefGrades();
        Check.house(all, "more 20 w<5&c=1|w>4&c=0");
        all.chief(0, 0, 0);
        all.chief(0, 0, 0);
        for (int w = 0; w < 10; w++) all.worker(w / 5, 50, 0, 0);
        Check.due("17: five times five", all.swap(0), 25);
        Check.due("17: the first of them", all.swap(1), 5);
        for (int w = 0; w < 5; w++) all.move(w, 1);
        Check.due("17: all of one chief", all.swap(0), 0);
        Check.due("17: all of one chief, none first", all.swap(1), -5);
    }
}
