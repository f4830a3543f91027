/**
 * Workers who are graded by chiefs: houses, teams, marks and grades, years, chances, a book of
 * grades told by hand, acts of chiefs and an image of it all. What each call promises is told in
 * DOC.md; the words in capitals in the comments are the words of that document.
 */
public final class ChiefGrades {
    public static final int NONE = -1, BAD = -2, STATE = -3, FULL = -4;
    public static final long NO = Long.MIN_VALUE;

    private static final int NOTHING = -5, OTHER_KIND = -6, NO_SUCH = -1001, BAD_YEARS = -1002;
    private static final int FIRST_FAULT = -10;
    private static final int MOST_WORKERS = 10, MOST_CHIEFS = 4, MOST_HOUSES = 5;
    private static final int MOST_ROWS = 20, MOST_SIGNS = 100, MOST_TRACED = 20;
    private static final int KINDS = 7, LAST_DIGIT = 9, MOST_WORTH = 99, LAST_SIGN = 127;
    private static final int LAST_YEAR = 99, MOST_YEARS = 20, MOST_PAY = 9999, MOST_ASKED = 50;
    private static final int AS_TOLD = 0, NOBODY_OUT = 1, BY_LOT = 2, BY_DUE = 3, PAY_FROM = 10;
    private static final int MOST_DRAWN_FROM = 30;

    private final World now = new World();
    private final World trial = new World();
    private final World kept = new World();
    private final Grader grader = new Grader();
    private final Trace ran = new Trace();
    private final int[] before = new int[MOST_WORKERS];
    private boolean hasImage;

    public ChiefGrades() {
    }

    // ---- houses, chiefs, workers

    public int feed(int sign) {
        if (sign < 0 || sign > LAST_SIGN) return BAD;
        if (now.signs >= MOST_SIGNS) return FULL;
        now.tape[now.signs] = (char) sign;
        now.signs++;
        return now.signs;
    }

    public int house() {
        if (now.houses >= MOST_HOUSES) return FULL;
        House told = new House(now.tape, now.signs);
        int fault = told.read();
        now.signs = 0;
        if (fault >= 0) return FIRST_FAULT - fault;
        now.held = told;
        now.houses++;
        return now.houses - 1;
    }

    public int told(int what) {
        switch (what) {
            case 0: return now.held.five;
            case 1: return now.held.one;
            case 2: return now.held.pay;
            case 3: return now.year;
            case 4: return now.newWorth;
            case 5: return now.newLate;
            default: return NONE;
        }
    }

    public int chief(int kind, int v, int desk) {
        if (kind < 0 || kind >= KINDS) return NONE;
        if (!isWithin(v, LAST_DIGIT) || !isWithin(desk, LAST_DIGIT)) return BAD;
        if (now.chiefs >= MOST_CHIEFS) return FULL;
        now.chief[now.chiefs] = Chief.make(kind, now.chiefs, v, desk);
        now.chiefs++;
        return now.chiefs - 1;
    }

    public int worker(int chief, int worth, int late, int desk) {
        if (now.chiefAt(chief) == null) return NONE;
        if (!isWithin(worth, MOST_WORTH) || !isWithin(late, MOST_WORTH)) return BAD;
        if (!isWithin(desk, LAST_DIGIT)) return BAD;
        if (now.workers >= MOST_WORKERS) return FULL;
        int worker = now.workers;
        now.worth[worker] = worth;
        now.late[worker] = late;
        now.chiefOf[worker] = chief;
        now.desk[worker] = desk;
        now.pay[worker] = 0;
        now.workers++;
        return worker;
    }

    public int of(int worker, int what) {
        if (!now.hasWorker(worker)) return NO_SUCH;
        switch (what) {
            case 0: return now.worth[worker];
            case 1: return now.late[worker];
            case 2: return now.chiefOf[worker];
            case 3: return now.desk[worker];
            case 4: return now.pay[worker];
            case 5: return mark(worker, now.chiefOf[worker]);
            case 6: return grader.gradeHad(now, worker);
            case 7:
                grader.gradeDue(now);
                return grader.grade[worker];
            case 8:
                grader.gradeLevelled(now);
                return grader.grade[worker];
            default: return NO_SUCH;
        }
    }

    public int by(int chief, int what) {
        Chief boss = now.chiefAt(chief);
        if (boss == null) return NONE;
        switch (what) {
            case 0: return boss.kind;
            case 1: return boss.v;
            case 2: return boss.desk;
            case 3: return Integer.bitCount(now.teamBits(chief));
            case 4: return now.teamBits(chief);
            default: return NONE;
        }
    }

    public int move(int worker, int chief) {
        if (!now.hasWorker(worker) || now.chiefAt(chief) == null) return NONE;
        int was = now.chiefOf[worker];
        now.chiefOf[worker] = chief;
        return was;
    }

    public int set(int worker, int what, int n) {
        if (!now.hasWorker(worker) || what < 0 || what > 2) return NONE;
        if (!isWithin(n, what == 2 ? LAST_DIGIT : MOST_WORTH)) return BAD;
        int[] row = what == 0 ? now.worth : what == 1 ? now.late : now.desk;
        int was = row[worker];
        row[worker] = n;
        return was;
    }

    public int fresh(int worth, int late) {
        if (!isWithin(worth, MOST_WORTH) || !isWithin(late, MOST_WORTH)) return BAD;
        int was = now.newWorth;
        now.newWorth = worth;
        now.newLate = late;
        return was;
    }

    // ---- grades

    public int mark(int worker, int chief) {
        Chief boss = now.chiefAt(chief);
        if (!now.hasWorker(worker) || boss == null) return NO_SUCH;
        return grader.markBy(now, worker, boss);
    }

    public int wrong(int what) {
        if (what < 0 || what > 2) return NONE;
        grader.gradeDue(now);
        System.arraycopy(grader.grade, 0, before, 0, MOST_WORKERS);
        grader.gradeAll(now);
        int unlike = 0, low = 0, sum = 0;
        for (int i = 0; i < now.workers && i < MOST_WORKERS; i++) {
            int grade = grader.grade[i];
            if (grade != before[i]) unlike |= 1 << i;
            if (grade < before[i]) low |= 1 << i;
            sum += grade;
        }
        return what == 0 ? unlike : what == 1 ? low : sum;
    }

    public int moved(int worker, int chief) {
        Chief boss = now.chiefAt(chief);
        if (!now.hasWorker(worker) || boss == null) return NONE;
        return gradeUnder(worker, boss);
    }

    public int best(int worker, int what) {
        if (!now.hasWorker(worker) || what < 0 || what > 1) return NONE;
        int to = NONE, greatest = NONE;
        for (int c = 0; c < MOST_CHIEFS; c++) {
            Chief boss = now.chiefAt(c);
            int grade = boss == null ? NONE : gradeUnder(worker, boss);
            if (grade > greatest) {
                to = c;
                greatest = grade;
            }
        }
        return what == 0 ? to : greatest;
    }

    public int asked(int chief, int n) {
        Chief boss = now.chiefAt(chief);
        if (boss == null) return NONE;
        if (!isWithin(n, MOST_ASKED)) return BAD;
        for (int more = 0; more <= LAST_DIGIT - boss.v; more++) {
            Chief raised = Chief.make(boss.kind, boss.number, boss.v + more, boss.desk);
            if (grader.gradeTeam(now, raised) >= n) return more;
        }
        return NOTHING;
    }

    public int swap(int what) {
        if (what < 0 || what > 1) return NONE;
        grader.gradeAll(now);
        System.arraycopy(grader.grade, 0, before, 0, MOST_WORKERS);
        trial.become(now);
        int many = 0, first = NOTHING;
        for (int one = 0; one < MOST_WORKERS; one++) {
            for (int other = one + 1; other < MOST_WORKERS; other++) {
                if (!bothGain(one, other)) continue;
                if (many == 0) first = 10 * one + other;
                many++;
            }
        }
        return what == 0 ? many : first;
    }

    // ---- years

    public int year() {
        if (now.year >= LAST_YEAR) return STATE;
        return goYear(now, AS_TOLD);
    }

    public int years(int n, int way, int what) {
        if (way < AS_TOLD || way > BY_DUE) return NO_SUCH;
        if (what < 0 || what > 1 && (what < PAY_FROM || !now.hasWorker(what - PAY_FROM))) return NO_SUCH;
        if (!isWithin(n, MOST_YEARS)) return BAD_YEARS;
        trial.become(now);
        int out = 0;
        for (int i = 0; i < n; i++) out += goYear(trial, way);
        if (what == 1) return out;
        return what == 0 ? trial.worthTogether() : trial.pay[what - PAY_FROM];
    }

    // ---- chances, books

    public long chance(int h, int g, int n, int m, int part) {
        if (h < 1 || h > MOST_DRAWN_FROM) return NO;
        if (!isWithin(g, h) || !isWithin(n, h) || !isWithin(m, n)) return NO;
        return lowest(choices(g, m) * choices(h - g, n - m), choices(h, n), part);
    }

    public int book(int worker, int chief, int grade) {
        if (!now.hasWorker(worker) || now.chiefAt(chief) == null) return NONE;
        if (grade < 1 || grade > 5) return BAD;
        if (now.rows >= MOST_ROWS) return FULL;
        now.rowWorker[now.rows] = worker;
        now.rowChief[now.rows] = chief;
        now.rowGrade[now.rows] = grade;
        now.rows++;
        return now.rows;
    }

    public int clear() {
        int were = now.rows;
        now.rows = 0;
        return were;
    }

    public int nets(int chief) {
        if (chief == -1) return howManyNets();
        return now.chiefAt(chief) == null ? NONE : netOf(chief);
    }

    public long leans(int one, int other, int part) {
        if (now.chiefAt(one) == null || now.chiefAt(other) == null || one == other) return NO;
        int sum = 0, many = 0;
        for (int worker = 0; worker < now.workers; worker++) {
            int byOne = now.firstGrade(worker, one), byOther = now.firstGrade(worker, other);
            if (byOne == 0 || byOther == 0) continue;
            sum += byOne - byOther;
            many++;
        }
        return lowest(sum, many, part);
    }

    public int looked() {
        for (int i = 0; i < now.rows && i < MOST_ROWS; i++) {
            Chief boss = now.chiefAt(now.rowChief[i]);
            if (boss == null) continue;
            if (gradeUnder(now.rowWorker[i], boss) != now.rowGrade[i]) return i;
        }
        return NOTHING;
    }

    // ---- acts, the image

    public int act(int chief, int act, int x) {
        ran.bodies = 0;
        Chief boss = now.chiefAt(chief);
        if (boss == null) return 0;
        switch (act) {
            case 0: return boss.works(x, ran);
            case 1: return boss.grades(x, ran);
            case 2: return boss.levels(x, ran);
            default: return 0;
        }
    }

    public int trace(int i) {
        return i < 0 || i >= ran.bodies || i >= MOST_TRACED ? NONE : ran.first[i];
    }

    public int as(int chief, int k) {
        Chief boss = now.chiefAt(chief);
        if (boss == null || k < 0 || k >= KINDS) return NONE;
        return boss.isOfKind(k) ? boss.v : OTHER_KIND;
    }

    public int image() {
        kept.become(now);
        hasImage = true;
        return now.workers;
    }

    public int undo() {
        if (!hasImage) return STATE;
        now.become(kept);
        return now.workers;
    }

    public int count(int what) {
        switch (what) {
            case 0: return now.workers;
            case 1: return now.chiefs;
            case 2: return now.houses;
            case 3: return now.rows;
            case 4: return now.signs;
            case 5: return ran.bodies;
            default: return NONE;
        }
    }

    // ---- what the calls are made of

    private static boolean isWithin(int n, int most) {
        return n >= 0 && n <= most;
    }

    private int gradeUnder(int worker, Chief boss) {
        trial.become(now);
        trial.chiefOf[worker] = boss.number;
        return grader.gradeHad(trial, worker);
    }

    /** Of two WORKERS as they stand in the trial, whose GRADES so far are in before. */
    private boolean bothGain(int one, int other) {
        if (!trial.hasWorker(one) || !trial.hasWorker(other)) return false;
        if (trial.chiefOf[one] == trial.chiefOf[other]) return false;
        trial.exchange(one, other);
        boolean gain = grader.gradeHad(trial, one) > before[one]
                && grader.gradeHad(trial, other) > before[other];
        trial.exchange(one, other);
        return gain;
    }

    /** A YEAR of a world: how many are out. */
    private int goYear(World world, int way) {
        if (way == BY_DUE) grader.gradeDue(world);
        else grader.gradeAll(world);
        int ones = 0;
        for (int i = 0; i < world.workers; i++) {
            int grade = grader.grade[i];
            world.pay[i] = Math.min(MOST_PAY, world.pay[i] + world.held.pay * grade);
            if (grade == 1) ones++;
        }
        if (way == NOBODY_OUT) ones = 0;
        else if (way == BY_LOT) outByLot(world, ones);
        else outByGrade(world);
        world.year++;
        return ones;
    }

    private void outByGrade(World world) {
        for (int i = 0; i < world.workers; i++) {
            if (grader.grade[i] == 1) world.replace(i);
        }
    }

    private static void outByLot(World world, int many) {
        if (world.workers == 0) return;
        for (int i = 0; i < many; i++) world.replace((world.year * 7 + i) % world.workers);
    }

    /** How many ways there are to choose k of n. */
    private static long choices(int n, int k) {
        if (k < 0 || k > n) return 0;
        long ways = 1;
        for (int i = 0; i < k; i++) ways = ways * (n - i) / (i + 1);
        return ways;
    }

    private static long lowest(long above, long below, int part) {
        if (below <= 0 || part < 0 || part > 1) return NO;
        long a = Math.abs(above), b = below;
        // Euclid's steps on numbers of 63 bits are fewer than 100
        for (int i = 0; i < 100 && a != 0; i++) {
            long rest = b % a;
            b = a;
            a = rest;
        }
        return (part == 0 ? above : below) / b;
    }

    private int howManyNets() {
        int many = 0;
        for (int c = 0; c < now.chiefs; c++) {
            boolean isLeastOfItsNet = (netOf(c) & (1 << c) - 1) == 0;
            if (isLeastOfItsNet) many++;
        }
        return many;
    }

    private int netOf(int chief) {
        int net = 1 << chief;
        // each round that adds nobody ends it; at most all the others can be added
        for (int round = 1; round < MOST_CHIEFS; round++) net |= neighbours(net);
        return net;
    }

    private int neighbours(int net) {
        int found = 0;
        for (int i = 0; i < now.rows; i++) {
            if ((net & 1 << now.rowChief[i]) == 0) continue;
            for (int j = 0; j < now.rows; j++) {
                if (now.rowWorker[j] == now.rowWorker[i]) found |= 1 << now.rowChief[j];
            }
        }
        return found;
    }

    /** All that there is but THE IMAGE and THE TRACE. */
    static final class World {
        int workers, chiefs, houses, rows, signs, year;
        int newWorth = 50, newLate = 50;
        final int[] worth = new int[MOST_WORKERS], late = new int[MOST_WORKERS];
        final int[] chiefOf = new int[MOST_WORKERS], desk = new int[MOST_WORKERS];
        final int[] pay = new int[MOST_WORKERS];
        final Chief[] chief = new Chief[MOST_CHIEFS];
        final int[] rowWorker = new int[MOST_ROWS], rowChief = new int[MOST_ROWS];
        final int[] rowGrade = new int[MOST_ROWS];
        final char[] tape = new char[MOST_SIGNS];
        // only the newest HOUSE is ever asked, so the older ones are but counted
        House held = new House(new char[0], 0);

        void become(World other) {
            workers = other.workers;
            chiefs = other.chiefs;
            houses = other.houses;
            rows = other.rows;
            signs = other.signs;
            year = other.year;
            newWorth = other.newWorth;
            newLate = other.newLate;
            held = other.held;
            System.arraycopy(other.worth, 0, worth, 0, MOST_WORKERS);
            System.arraycopy(other.late, 0, late, 0, MOST_WORKERS);
            System.arraycopy(other.chiefOf, 0, chiefOf, 0, MOST_WORKERS);
            System.arraycopy(other.desk, 0, desk, 0, MOST_WORKERS);
            System.arraycopy(other.pay, 0, pay, 0, MOST_WORKERS);
            System.arraycopy(other.rowWorker, 0, rowWorker, 0, MOST_ROWS);
            System.arraycopy(other.rowChief, 0, rowChief, 0, MOST_ROWS);
            System.arraycopy(other.rowGrade, 0, rowGrade, 0, MOST_ROWS);
            System.arraycopy(other.tape, 0, tape, 0, MOST_SIGNS);
            for (int c = 0; c < MOST_CHIEFS; c++) chief[c] = other.chief[c];
        }

        boolean hasWorker(int n) {
            return n >= 0 && n < workers && n < MOST_WORKERS;
        }

        /** A CHIEF, or null if there is no such one. */
        Chief chiefAt(int n) {
            return n >= 0 && n < chiefs && n < MOST_CHIEFS ? chief[n] : null;
        }

        int teamBits(int chief) {
            int bits = 0;
            for (int i = 0; i < workers; i++) {
                if (chiefOf[i] == chief) bits |= 1 << i;
            }
            return bits;
        }

        int worthTogether() {
            int sum = 0;
            for (int i = 0; i < workers; i++) sum += worth[i];
            return sum;
        }

        void replace(int worker) {
            if (!hasWorker(worker)) return;
            worth[worker] = newWorth;
            late[worker] = newLate;
            pay[worker] = 0;
        }

        /** Two WORKERS change CHIEF and DESK with one another. */
        void exchange(int one, int other) {
            int chiefOfOne = chiefOf[one], deskOfOne = desk[one];
            chiefOf[one] = chiefOf[other];
            desk[one] = desk[other];
            chiefOf[other] = chiefOfOne;
            desk[other] = deskOfOne;
        }

        /** The GRADE of the first row of a WORKER and a CHIEF, 0 if there is none. */
        int firstGrade(int worker, int chief) {
            for (int i = 0; i < rows; i++) {
                if (rowWorker[i] == worker && rowChief[i] == chief) return rowGrade[i];
            }
            return 0;
        }
    }

    /** The CLAUSES that hold, read once from a text; no text is looked at again after that. */
    static final class House {
        private static final int MOST_CLAUSES = 10, MOST_OPEN = 5, ENDLESS = 1000;
        private static final int NOT = -1, AND = -2, OR = -3, GAIN = -4;
        private static final String LETTERS = "wckbyt";

        int five = 10, one = 0, pay = 10;
        private final char[] text;
        private final int size;
        private int at;
        private boolean isFaulty;
        // the CLAUSES as steps on a pile of answers: the place of a TEST's letter with the least
        // and the most that pass, or NOT, AND, OR, or GAIN with what a MARK is more by
        private final int[] step, least, most;
        private int steps;

        House(char[] text, int size) {
            this.text = text;
            this.size = Math.max(0, Math.min(size, text.length));
            step = new int[this.size];
            least = new int[this.size];
            most = new int[this.size];
        }

        /** The FAULT, or -1. */
        int read() {
            boolean goesOn = true;
            for (int n = 1; n <= MOST_CLAUSES && goesOn; n++) {
                switch (sign()) {
                    case 'm': readGain("more ", 1); break;
                    case 'l': readGain("less ", -1); break;
                    case 'f': five = readShare("five "); break;
                    case 'o': one = readShare("one "); break;
                    case 'p': pay = readShare("pay "); break;
                    default: isFaulty = true;
                }
                goesOn = n < MOST_CLAUSES && at < size && take(';');
            }
            return isFaulty || at < size ? at : -1;
        }

        /** By how much a MARK is more; the facts stand in the order of the letters. */
        int raise(int[] facts) {
            // the pile's newest answer is its lowest bit; with 5 open no more than 13 pile up
            int pile = 0, sum = 0;
            for (int i = 0; i < steps; i++) {
                int what = step[i], newest = pile & 1, next = pile >> 1 & 1;
                if (what == GAIN) {
                    sum += newest * least[i];
                    pile = 0;
                } else if (what == NOT) {
                    pile ^= 1;
                } else if (what == AND) {
                    pile = pile >> 2 << 1 | newest & next;
                } else if (what == OR) {
                    pile = pile >> 2 << 1 | newest | next;
                } else if (what >= 0 && what < facts.length) {
                    boolean passes = facts[what] >= least[i] && facts[what] <= most[i];
                    pile = pile << 1 | (passes ? 1 : 0);
                }
            }
            return sum;
        }

        private int readShare(String word) {
            takeAll(word);
            return readNumber();
        }

        private void readGain(String word, int times) {
            takeAll(word);
            int n = readNumber();
            take(' ');
            readEither(0);
            add(GAIN, times * n, 0);
        }

        private void readEither(int open) {
            readBoth(open);
            for (int i = 0; i < size && sign() == '|'; i++) {
                at++;
                readBoth(open);
                add(OR, 0, 0);
            }
        }

        private void readBoth(int open) {
            readPart(open);
            for (int i = 0; i < size && sign() == '&'; i++) {
                at++;
                readPart(open);
                add(AND, 0, 0);
            }
        }

        private void readPart(int open) {
            int sign = sign();
            int letter = sign < 0 ? -1 : LETTERS.indexOf((char) sign);
            if (sign == '!' && open < MOST_OPEN) {
                at++;
                readPart(open + 1);
                add(NOT, 0, 0);
            } else if (sign == '(' && open < MOST_OPEN) {
                at++;
                readEither(open + 1);
                take(')');
            } else if (letter >= 0) {
                at++;
                int relation = sign();
                if (relation == '<' || relation == '=' || relation == '>') at++;
                else isFaulty = true;
                int n = readNumber();
                if (relation == '<') add(letter, 0, n - 1);
                else if (relation == '=') add(letter, n, n);
                else add(letter, n + 1, ENDLESS);
            } else {
                isFaulty = true;
            }
        }

        private int readNumber() {
            int first = sign();
            if (first < '0' || first > '9') {
                isFaulty = true;
                return 0;
            }
            at++;
            int second = sign();
            if (first == '0' || second < '0' || second > '9') return first - '0';
            at++;
            return 10 * (first - '0') + second - '0';
        }

        /** The sign that is next; -1 at the end and from a fault on, so that nothing goes on then. */
        private int sign() {
            return isFaulty || at < 0 || at >= size ? -1 : text[at];
        }

        private void takeAll(String word) {
            for (int i = 0; i < word.length(); i++) take(word.charAt(i));
        }

        private boolean take(char due) {
            if (sign() != due) isFaulty = true;
            else at++;
            return !isFaulty;
        }

        private void add(int what, int from, int to) {
            if (isFaulty || steps >= size) return;
            step[steps] = what;
            least[steps] = from;
            most[steps] = to;
            steps++;
        }
    }

    /** MARKS and GRADES of a world, in rows that are used again. */
    static final class Grader {
        final int[] grade = new int[MOST_WORKERS];
        private final int[] mark = new int[MOST_WORKERS];
        private final int[] team = new int[MOST_WORKERS], line = new int[MOST_WORKERS];
        private int size;
        private final int[] facts = new int[6];
        private final Chief plain = new Chief(0, 0, 0, 0);

        int markBy(World world, int worker, Chief boss) {
            if (!world.hasWorker(worker)) return 0;
            facts[0] = worker;
            facts[1] = boss.number;
            facts[2] = boss.kind;
            facts[3] = world.worth[worker] / 10;
            facts[4] = world.year % 10;
            facts[5] = Integer.bitCount(world.teamBits(boss.number));
            return boss.seen(world.worth[worker], world.late[worker])
                    + boss.favour(world.desk[worker]) + world.held.raise(facts);
        }

        void gradeAll(World world) {
            for (int c = 0; c < world.chiefs; c++) {
                Chief boss = world.chiefAt(c);
                if (boss != null) gradeTeam(world, boss);
            }
        }

        /** The GRADE that a WORKER has. */
        int gradeHad(World world, int worker) {
            if (!world.hasWorker(worker)) return 0;
            Chief boss = world.chiefAt(world.chiefOf[worker]);
            if (boss == null) return 0;
            gradeTeam(world, boss);
            return grade[worker];
        }

        /** The GRADES of a TEAM: their sum. */
        int gradeTeam(World world, Chief boss) {
            gather(world.teamBits(boss.number));
            markTeam(world, boss);
            return share(world, boss);
        }

        /** GRADES as if all WORKERS were one TEAM, each MARK being WORTH. */
        void gradeDue(World world) {
            gather((1 << world.workers) - 1);
            for (int i = 0; i < size; i++) mark[team[i]] = world.worth[team[i]];
            share(world, plain);
        }

        void gradeLevelled(World world) {
            for (int c = 0; c < world.chiefs; c++) {
                Chief boss = world.chiefAt(c);
                if (boss == null) continue;
                gather(world.teamBits(c));
                markTeam(world, boss);
            }
            gather((1 << world.workers) - 1);
            int all = meanOfTeam();
            for (int c = 0; c < world.chiefs; c++) {
                Chief boss = world.chiefAt(c);
                if (boss == null) continue;
                gather(world.teamBits(c));
                int more = all - meanOfTeam();
                for (int i = 0; i < size; i++) mark[team[i]] += more;
                share(world, boss);
            }
        }

        private int meanOfTeam() {
            if (size == 0) return 0;
            int sum = 0;
            for (int i = 0; i < size; i++) sum += mark[team[i]];
            return sum / size;
        }

        private void gather(int bits) {
            size = 0;
            for (int i = 0; i < MOST_WORKERS; i++) {
                if ((bits & 1 << i) != 0) team[size++] = i;
            }
        }

        private void markTeam(World world, Chief boss) {
            for (int i = 0; i < size; i++) mark[team[i]] = markBy(world, team[i], boss);
        }

        private int share(World world, Chief boss) {
            int fives = world.held.five * size / 10;
            int ones = Math.min(size, world.held.one * size / 10);
            rank();
            for (int i = 0; i < size; i++) {
                int plainly = byMark(mark[line[i]]);
                boolean mayHaveFive = i >= size - fives;
                grade[line[i]] = plainly == 5 && !mayHaveFive ? 4 : plainly;
            }
            boss.lineUp(team, size, world.year, line);
            for (int i = 0; i < ones; i++) grade[line[i]] = 1;
            int sum = 0;
            for (int i = 0; i < size; i++) sum += grade[team[i]];
            return sum;
        }

        private static int byMark(int mark) {
            return mark >= 80 ? 5 : mark >= 60 ? 4 : mark >= 40 ? 3 : mark >= 20 ? 2 : 1;
        }

        /**
         * THE TEAM from the least MARK on, of several the greatest number first: so ONES are the
         * first of the line, and FIVES are the last.
         */
        private void rank() {
            for (int i = 0; i < size; i++) {
                int place = 0;
                for (int j = 0; j < size; j++) {
                    boolean isLess = mark[team[j]] < mark[team[i]];
                    boolean isLike = mark[team[j]] == mark[team[i]];
                    if (isLess || isLike && j > i) place++;
                }
                line[place] = team[i];
            }
        }
    }

    /** THE TRACE. */
    static final class Trace {
        final int[] first = new int[MOST_TRACED];
        int bodies;

        void begin(int body) {
            if (bodies >= 0 && bodies < MOST_TRACED) first[bodies] = body;
            bodies++;
        }
    }

    /** KIND 0, and what the other KINDS have of it. */
    static class Chief {
        final int kind, number, v, desk;

        Chief(int kind, int number, int v, int desk) {
            this.kind = kind;
            this.number = number;
            this.v = v;
            this.desk = desk;
        }

        static Chief make(int kind, int number, int v, int desk) {
            switch (kind) {
                case 1: return new Lenient(kind, number, v, desk);
                case 2: return new Turning(kind, number, v, desk);
                case 3: return new Lately(kind, number, v, desk);
                case 4: return new Near(kind, number, v, desk);
                case 5: return new Keeping(kind, number, v, desk);
                case 6: return new Talking(kind, number, v, desk);
                default: return new Chief(kind, number, v, desk);
            }
        }

        final boolean isOfKind(int k) {
            switch (k) {
                case 0: return true;
                case 1: return this instanceof Lenient;
                case 2: return this instanceof Turning;
                case 3: return this instanceof Lately;
                case 4: return this instanceof Near;
                case 5: return this instanceof Keeping;
                case 6: return this instanceof Talking;
                default: return false;
            }
        }

        /** What a MARK starts from. */
        int seen(int worth, int late) {
            return worth;
        }

        /** What the KIND adds to a MARK. */
        int favour(int workersDesk) {
            return 0;
        }

        /** Puts those first who have a 1 first; the line stands from the least MARK on as it comes. */
        void lineUp(int[] team, int size, int year, int[] line) {
        }

        int works(int x, Trace ran) {
            ran.begin(1);
            return x + number;
        }

        int grades(int x, Trace ran) {
            ran.begin(2);
            return works(x, ran) - v;
        }

        int levels(int x, Trace ran) {
            ran.begin(3);
            return grades(x, ran) * 2;
        }
    }

    static class Lenient extends Chief {
        Lenient(int kind, int number, int v, int desk) {
            super(kind, number, v, desk);
        }

        int favour(int workersDesk) {
            return v;
        }

        int works(int x, Trace ran) {
            ran.begin(11);
            return super.works(x * 3, ran);
        }
    }

    static class Turning extends Chief {
        Turning(int kind, int number, int v, int desk) {
            super(kind, number, v, desk);
        }

        void lineUp(int[] team, int size, int year, int[] line) {
            for (int i = 0; i < size; i++) line[i] = team[(year + i) % size];
        }

        int grades(int x, Trace ran) {
            ran.begin(21);
            return -super.grades(x, ran);
        }
    }

    static class Lately extends Chief {
        Lately(int kind, int number, int v, int desk) {
            super(kind, number, v, desk);
        }

        int seen(int worth, int late) {
            return (worth * (10 - v) + late * v) / 10;
        }

        int levels(int x, Trace ran) {
            ran.begin(31);
            return super.levels(x, ran) ^ 7;
        }
    }

    static final class Near extends Lenient {
        Near(int kind, int number, int v, int desk) {
            super(kind, number, v, desk);
        }

        int favour(int workersDesk) {
            return super.favour(workersDesk) + 9 - Math.abs(desk - workersDesk);
        }

        int levels(int x, Trace ran) {
            ran.begin(41);
            return super.levels(x - 1, ran) + works(2, ran);
        }
    }

    static final class Keeping extends Turning {
        Keeping(int kind, int number, int v, int desk) {
            super(kind, number, v, desk);
        }

        void lineUp(int[] team, int size, int year, int[] line) {
            int place = -1;
            for (int i = 0; i < size; i++) {
                if (team[i] == v) place = i;
            }
            if (place < 0) {
                super.lineUp(team, size, year, line);
                return;
            }
            line[0] = v;
            int others = size - 1;
            for (int i = 0; i < others; i++) {
                int turn = (year + i) % others;
                line[i + 1] = team[turn < place ? turn : turn + 1];
            }
        }

        int works(int x, Trace ran) {
            ran.begin(51);
            return super.works(x, ran) ^ number;
        }
    }

    static final class Talking extends Lately {
        Talking(int kind, int number, int v, int desk) {
            super(kind, number, v, desk);
        }

        int favour(int workersDesk) {
            return 2 * v;
        }

        int grades(int x, Trace ran) {
            ran.begin(61);
            return super.grades(x, ran) + v;
        }
    }
}
