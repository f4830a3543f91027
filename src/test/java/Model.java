import java.math.BigInteger;
import java.util.ArrayList;
import java.util.Arrays;
import java.util.Collections;
import java.util.Comparator;
import java.util.List;
import java.util.Map;
import java.util.TreeMap;
import java.util.TreeSet;

/**
 * The document once more, told in another way and with the Java library, to be held against the
 * class: texts are read sign by sign, an E is cut at its signs, ways are counted by drawing.
 */
final class Model {
    private static final int[] ABOVE = {-1, 0, 0, 0, 1, 2, 3};

    record Worker(int worth, int late, int chief, int desk, int pay) {
    }

    record Boss(int kind, int v, int desk) {
    }

    record Row(int worker, int chief, int grade) {
    }

    record Gain(int n, String e) {
    }

    /** All of a world; lists are never changed once they stand here. */
    record State(List<Worker> workers, List<Boss> chiefs, List<String> houses, List<Row> book,
            String tape, int year, int newWorth, int newLate) {
        State workers(List<Worker> w) {
            return new State(w, chiefs, houses, book, tape, year, newWorth, newLate);
        }

        State chiefs(List<Boss> c) {
            return new State(workers, c, houses, book, tape, year, newWorth, newLate);
        }

        State book(List<Row> b) {
            return new State(workers, chiefs, houses, b, tape, year, newWorth, newLate);
        }

        State tape(String t) {
            return new State(workers, chiefs, houses, book, t, year, newWorth, newLate);
        }

        State worker(int i, Worker w) {
            List<Worker> all = new ArrayList<>(workers);
            all.set(i, w);
            return workers(all);
        }
    }

    private State s = new State(List.of(), List.of(), List.of(), List.of(), "", 0, 50, 50);
    private State image;
    private final List<Integer> trace = new ArrayList<>();

    private static <T> List<T> with(List<T> list, T one) {
        List<T> all = new ArrayList<>(list);
        all.add(one);
        return all;
    }

    private boolean isWorker(int w) {
        return w >= 0 && w < s.workers.size();
    }

    private boolean isChief(int c) {
        return c >= 0 && c < s.chiefs.size();
    }

    // ---- houses

    int feed(int sign) {
        if (sign < 0 || sign > 127) return -2;
        if (s.tape.length() == 100) return -4;
        s = s.tape(s.tape + (char) sign);
        return s.tape.length();
    }

    int house() {
        if (s.houses.size() == 5) return -4;
        String text = s.tape;
        s = s.tape("");
        Spelling spelling = new Spelling();
        for (int i = 0; i < text.length(); i++) {
            if (!spelling.goesOnWith(text.charAt(i))) return -10 - i;
        }
        if (!spelling.mayEnd()) return -10 - text.length();
        s = new State(s.workers, s.chiefs, with(s.houses, text), s.book, "", s.year, s.newWorth, s.newLate);
        return s.houses.size() - 1;
    }

    private static List<String> clauses(State s) {
        if (s.houses.isEmpty()) return List.of();
        return List.of(s.houses.get(s.houses.size() - 1).split(";"));
    }

    private static int last(State s, String word, int without) {
        int n = without;
        for (String clause : clauses(s)) {
            if (clause.startsWith(word + " ")) n = Integer.parseInt(clause.split(" ")[1]);
        }
        return n;
    }

    private static List<Gain> gains(State s) {
        List<Gain> all = new ArrayList<>();
        for (String clause : clauses(s)) {
            String[] parts = clause.split(" ");
            if (parts[0].equals("more")) all.add(new Gain(Integer.parseInt(parts[1]), parts[2]));
            if (parts[0].equals("less")) all.add(new Gain(-Integer.parseInt(parts[1]), parts[2]));
        }
        return all;
    }

    private static int cut(String e, char at) {
        int open = 0;
        for (int i = 0; i < e.length(); i++) {
            if (e.charAt(i) == '(') open++;
            if (e.charAt(i) == ')') open--;
            if (open == 0 && e.charAt(i) == at) return i;
        }
        return -1;
    }

    private static boolean isSo(String e, Map<Character, Integer> facts) {
        int or = cut(e, '|');
        if (or >= 0) return isSo(e.substring(0, or), facts) || isSo(e.substring(or + 1), facts);
        int and = cut(e, '&');
        if (and >= 0) return isSo(e.substring(0, and), facts) && isSo(e.substring(and + 1), facts);
        if (e.startsWith("!")) return !isSo(e.substring(1), facts);
        if (e.startsWith("(")) return isSo(e.substring(1, e.length() - 1), facts);
        int is = facts.get(e.charAt(0)), n = Integer.parseInt(e.substring(2));
        return switch (e.charAt(1)) {
            case '<' -> is < n;
            case '=' -> is == n;
            default -> is > n;
        };
    }

    // ---- marks and grades

    private static List<Integer> team(State s, int chief) {
        List<Integer> team = new ArrayList<>();
        for (int i = 0; i < s.workers.size(); i++) {
            if (s.workers.get(i).chief == chief) team.add(i);
        }
        return team;
    }

    private static boolean isUnder(int kind, int k) {
        return kind == k || kind > 0 && isUnder(ABOVE[kind], k);
    }

    private static int mark(State s, int worker, int chief) {
        Worker w = s.workers.get(worker);
        Boss c = s.chiefs.get(chief);
        int sum = w.worth;
        if (isUnder(c.kind, 3)) sum = (w.worth * (10 - c.v) + w.late * c.v) / 10;
        if (c.kind == 1 || c.kind == 4) sum += c.v;
        if (c.kind == 4) sum += 9 - Math.max(w.desk - c.desk, c.desk - w.desk);
        if (c.kind == 6) sum += 2 * c.v;
        Map<Character, Integer> facts = new TreeMap<>();
        facts.put('w', worker);
        facts.put('c', chief);
        facts.put('k', c.kind);
        facts.put('b', w.worth / 10);
        facts.put('y', s.year % 10);
        facts.put('t', team(s, chief).size());
        for (Gain g : gains(s)) {
            if (isSo(g.e, facts)) sum += g.n;
        }
        return sum;
    }

    private static List<Integer> round(List<Integer> team, int year) {
        List<Integer> all = new ArrayList<>(team);
        if (!all.isEmpty()) Collections.rotate(all, -(year % all.size()));
        return all;
    }

    private static Map<Integer, Integer> grades(State s, Boss boss, Map<Integer, Integer> marks) {
        Map<Integer, Integer> grades = new TreeMap<>();
        List<Integer> team = new ArrayList<>(marks.keySet());
        for (int w : team) {
            int m = marks.get(w);
            grades.put(w, m >= 80 ? 5 : m >= 60 ? 4 : m >= 40 ? 3 : m >= 20 ? 2 : 1);
        }
        List<Integer> greatest = new ArrayList<>(team);
        greatest.sort(Comparator.comparing((Integer w) -> -marks.get(w)).thenComparing(w -> w));
        int fives = last(s, "five", 10) * team.size() / 10;
        for (int i = fives; i < greatest.size(); i++) grades.merge(greatest.get(i), 4, Math::min);
        List<Integer> least = new ArrayList<>(team);
        least.sort(Comparator.comparing((Integer w) -> marks.get(w)).thenComparing(w -> -w));
        if (isUnder(boss.kind, 2)) least = round(team, s.year);
        if (boss.kind == 5 && team.contains(boss.v)) {
            List<Integer> others = new ArrayList<>(team);
            others.remove((Integer) boss.v);
            least = new ArrayList<>(List.of(boss.v));
            least.addAll(round(others, s.year));
        }
        int ones = last(s, "one", 0) * team.size() / 10;
        for (int i = 0; i < ones && i < least.size(); i++) grades.put(least.get(i), 1);
        return grades;
    }

    private static Map<Integer, Integer> marks(State s, List<Integer> team) {
        Map<Integer, Integer> marks = new TreeMap<>();
        for (int w : team) marks.put(w, mark(s, w, s.workers.get(w).chief));
        return marks;
    }

    private static Map<Integer, Integer> teamGrades(State s, int chief) {
        return grades(s, s.chiefs.get(chief), marks(s, team(s, chief)));
    }

    private static Map<Integer, Integer> allGrades(State s) {
        Map<Integer, Integer> all = new TreeMap<>();
        for (int c = 0; c < s.chiefs.size(); c++) all.putAll(teamGrades(s, c));
        return all;
    }

    private static Map<Integer, Integer> dues(State s) {
        Map<Integer, Integer> worths = new TreeMap<>();
        for (int w = 0; w < s.workers.size(); w++) worths.put(w, s.workers.get(w).worth);
        return grades(s, new Boss(0, 0, 0), worths);
    }

    private static int mean(Map<Integer, Integer> marks) {
        int sum = marks.values().stream().mapToInt(m -> m).sum();
        int size = Math.abs(sum) / marks.size();
        return sum < 0 ? -size : size;
    }

    private static int levelled(State s, int worker) {
        int chief = s.workers.get(worker).chief;
        Map<Integer, Integer> marks = marks(s, team(s, chief)), all = new TreeMap<>();
        for (int c = 0; c < s.chiefs.size(); c++) all.putAll(marks(s, team(s, c)));
        int more = mean(all) - mean(marks);
        marks.replaceAll((w, m) -> m + more);
        return grades(s, s.chiefs.get(chief), marks).get(worker);
    }

    // ---- houses, chiefs, workers

    int told(int what) {
        return switch (what) {
            case 0 -> last(s, "five", 10);
            case 1 -> last(s, "one", 0);
            case 2 -> last(s, "pay", 10);
            case 3 -> s.year;
            case 4 -> s.newWorth;
            case 5 -> s.newLate;
            default -> -1;
        };
    }

    int chief(int kind, int v, int desk) {
        if (kind < 0 || kind > 6) return -1;
        if (v < 0 || v > 9 || desk < 0 || desk > 9) return -2;
        if (s.chiefs.size() == 4) return -4;
        s = s.chiefs(with(s.chiefs, new Boss(kind, v, desk)));
        return s.chiefs.size() - 1;
    }

    int worker(int chief, int worth, int late, int desk) {
        if (!isChief(chief)) return -1;
        if (worth < 0 || worth > 99 || late < 0 || late > 99 || desk < 0 || desk > 9) return -2;
        if (s.workers.size() == 10) return -4;
        s = s.workers(with(s.workers, new Worker(worth, late, chief, desk, 0)));
        return s.workers.size() - 1;
    }

    int of(int worker, int what) {
        if (!isWorker(worker)) return -1001;
        Worker w = s.workers.get(worker);
        return switch (what) {
            case 0 -> w.worth;
            case 1 -> w.late;
            case 2 -> w.chief;
            case 3 -> w.desk;
            case 4 -> w.pay;
            case 5 -> mark(s, worker, w.chief);
            case 6 -> allGrades(s).get(worker);
            case 7 -> dues(s).get(worker);
            case 8 -> levelled(s, worker);
            default -> -1001;
        };
    }

    private static int bits(Iterable<Integer> numbers) {
        BigInteger bits = BigInteger.ZERO;
        for (int n : numbers) bits = bits.setBit(n);
        return bits.intValue();
    }

    int by(int chief, int what) {
        if (!isChief(chief)) return -1;
        Boss c = s.chiefs.get(chief);
        return switch (what) {
            case 0 -> c.kind;
            case 1 -> c.v;
            case 2 -> c.desk;
            case 3 -> team(s, chief).size();
            case 4 -> bits(team(s, chief));
            default -> -1;
        };
    }

    private static State withMove(State s, int worker, int chief, int desk) {
        Worker w = s.workers.get(worker);
        return s.worker(worker, new Worker(w.worth, w.late, chief, desk, w.pay));
    }

    int move(int worker, int chief) {
        if (!isWorker(worker) || !isChief(chief)) return -1;
        Worker w = s.workers.get(worker);
        s = withMove(s, worker, chief, w.desk);
        return w.chief;
    }

    int set(int worker, int what, int n) {
        if (!isWorker(worker) || what < 0 || what > 2) return -1;
        if (n < 0 || n > (what == 2 ? 9 : 99)) return -2;
        Worker w = s.workers.get(worker);
        int was = what == 0 ? w.worth : what == 1 ? w.late : w.desk;
        s = s.worker(worker, new Worker(what == 0 ? n : w.worth, what == 1 ? n : w.late, w.chief,
                what == 2 ? n : w.desk, w.pay));
        return was;
    }

    int fresh(int worth, int late) {
        if (worth < 0 || worth > 99 || late < 0 || late > 99) return -2;
        int was = s.newWorth;
        s = new State(s.workers, s.chiefs, s.houses, s.book, s.tape, s.year, worth, late);
        return was;
    }

    // ---- grades

    int mark(int worker, int chief) {
        return isWorker(worker) && isChief(chief) ? mark(s, worker, chief) : -1001;
    }

    int wrong(int what) {
        Map<Integer, Integer> grades = allGrades(s), dues = dues(s);
        List<Integer> found = new ArrayList<>();
        int sum = 0;
        for (int w : grades.keySet()) {
            int way = Integer.compare(grades.get(w), dues.get(w));
            if (what == 0 && way != 0 || what == 1 && way < 0) found.add(w);
            sum += grades.get(w);
        }
        return what < 0 || what > 2 ? -1 : what == 2 ? sum : bits(found);
    }

    int moved(int worker, int chief) {
        if (!isWorker(worker) || !isChief(chief)) return -1;
        State after = withMove(s, worker, chief, s.workers.get(worker).desk);
        return allGrades(after).get(worker);
    }

    int best(int worker, int what) {
        if (!isWorker(worker) || what < 0 || what > 1) return -1;
        TreeMap<Integer, Integer> byGrade = new TreeMap<>();
        for (int c = 0; c < s.chiefs.size(); c++) byGrade.putIfAbsent(moved(worker, c), c);
        return what == 0 ? byGrade.lastEntry().getValue() : byGrade.lastKey();
    }

    int asked(int chief, int n) {
        if (!isChief(chief)) return -1;
        if (n < 0 || n > 50) return -2;
        Boss c = s.chiefs.get(chief);
        for (int v = c.v; v <= 9; v++) {
            List<Boss> all = new ArrayList<>(s.chiefs);
            all.set(chief, new Boss(c.kind, v, c.desk));
            int sum = teamGrades(s.chiefs(all), chief).values().stream().mapToInt(g -> g).sum();
            if (sum >= n) return v - c.v;
        }
        return -5;
    }

    int swap(int what) {
        TreeSet<Integer> found = new TreeSet<>();
        Map<Integer, Integer> grades = allGrades(s);
        for (int a = 0; a < s.workers.size(); a++) {
            for (int b = a + 1; b < s.workers.size(); b++) {
                Worker one = s.workers.get(a), other = s.workers.get(b);
                if (one.chief == other.chief) continue;
                State after = withMove(withMove(s, a, other.chief, other.desk), b, one.chief, one.desk);
                Map<Integer, Integer> then = allGrades(after);
                if (then.get(a) > grades.get(a) && then.get(b) > grades.get(b)) found.add(10 * a + b);
            }
        }
        return what == 0 ? found.size() : what != 1 ? -1 : found.isEmpty() ? -5 : found.first();
    }

    // ---- years

    private int out;

    private State after(State s, int way) {
        Map<Integer, Integer> grades = way == 3 ? dues(s) : allGrades(s);
        List<Integer> outs = new ArrayList<>(grades.keySet());
        outs.removeIf(w -> grades.get(w) != 1);
        int many = outs.size();
        if (way == 1) outs.clear();
        if (way == 2) {
            outs = new ArrayList<>(grades.keySet());
            if (!outs.isEmpty()) Collections.rotate(outs, -(s.year * 7 % outs.size()));
            outs = outs.subList(0, many);
        }
        out = outs.size();
        List<Worker> then = new ArrayList<>();
        for (int i = 0; i < s.workers.size(); i++) {
            Worker w = s.workers.get(i);
            int pay = Math.min(9999, w.pay + last(s, "pay", 10) * grades.get(i));
            then.add(outs.contains(i) ? new Worker(s.newWorth, s.newLate, w.chief, w.desk, 0)
                    : new Worker(w.worth, w.late, w.chief, w.desk, pay));
        }
        return new State(then, s.chiefs, s.houses, s.book, s.tape, s.year + 1, s.newWorth, s.newLate);
    }

    int year() {
        if (s.year == 99) return -3;
        s = after(s, 0);
        return out;
    }

    int years(int n, int way, int what) {
        if (way < 0 || way > 3) return -1001;
        if (what != 0 && what != 1 && (what < 10 || !isWorker(what - 10))) return -1001;
        if (n < 0 || n > 20) return -1002;
        State then = s;
        int outs = 0;
        for (int i = 0; i < n; i++) {
            then = after(then, way);
            outs += out;
        }
        if (what == 0) return then.workers.stream().mapToInt(Worker::worth).sum();
        return what == 1 ? outs : then.workers.get(what - 10).pay;
    }

    // ---- chances, books

    private static BigInteger factorial(int n) {
        return n < 2 ? BigInteger.ONE : BigInteger.valueOf(n).multiply(factorial(n - 1));
    }

    private static BigInteger choose(int n, int k) {
        if (k < 0 || k > n) return BigInteger.ZERO;
        return factorial(n).divide(factorial(k)).divide(factorial(n - k));
    }

    private static long lowest(BigInteger above, BigInteger below, int part) {
        BigInteger by = above.gcd(below);
        return (part == 0 ? above : below).divide(by).longValueExact();
    }

    long chance(int h, int g, int n, int m, int part) {
        if (h < 1 || h > 30 || g < 0 || g > h || n < 0 || n > h || m < 0 || m > n) return Long.MIN_VALUE;
        if (part != 0 && part != 1) return Long.MIN_VALUE;
        return lowest(choose(g, m).multiply(choose(h - g, n - m)), choose(h, n), part);
    }

    int book(int worker, int chief, int grade) {
        if (!isWorker(worker) || !isChief(chief)) return -1;
        if (grade < 1 || grade > 5) return -2;
        if (s.book.size() == 20) return -4;
        s = s.book(with(s.book, new Row(worker, chief, grade)));
        return s.book.size();
    }

    int clear() {
        int were = s.book.size();
        s = s.book(List.of());
        return were;
    }

    int nets(int chief) {
        int[] net = new int[s.chiefs.size()];
        for (int c = 0; c < net.length; c++) net[c] = c;
        for (Row a : s.book) {
            for (Row b : s.book) {
                if (a.worker != b.worker || net[a.chief] == net[b.chief]) continue;
                int gone = net[a.chief], stays = net[b.chief];
                for (int c = 0; c < net.length; c++) net[c] = net[c] == gone ? stays : net[c];
            }
        }
        if (chief == -1) return (int) Arrays.stream(net).distinct().count();
        if (!isChief(chief)) return -1;
        List<Integer> found = new ArrayList<>();
        for (int c = 0; c < net.length; c++) {
            if (net[c] == net[chief]) found.add(c);
        }
        return bits(found);
    }

    long leans(int one, int other, int part) {
        if (!isChief(one) || !isChief(other) || one == other || part != 0 && part != 1) return Long.MIN_VALUE;
        Map<Integer, Integer> byOne = new TreeMap<>(), byOther = new TreeMap<>();
        for (Row r : s.book) {
            if (r.chief == one) byOne.putIfAbsent(r.worker, r.grade);
            if (r.chief == other) byOther.putIfAbsent(r.worker, r.grade);
        }
        byOne.keySet().retainAll(byOther.keySet());
        if (byOne.isEmpty()) return Long.MIN_VALUE;
        int sum = 0;
        for (int w : byOne.keySet()) sum += byOne.get(w) - byOther.get(w);
        return lowest(BigInteger.valueOf(sum), BigInteger.valueOf(byOne.size()), part);
    }

    int looked() {
        for (Row r : s.book) {
            if (moved(r.worker, r.chief) != r.grade) return s.book.indexOf(r);
        }
        return -5;
    }

    // ---- acts, the image

    private int body(int kind, int act, int chief, int x) {
        Boss c = s.chiefs.get(chief);
        int up = ABOVE[kind];
        switch (kind * 10 + act) {
            case 0: trace.add(1); return x + chief;
            case 1: trace.add(2); return body(c.kind, 0, chief, x) - c.v;
            case 2: trace.add(3); return body(c.kind, 1, chief, x) * 2;
            case 10: trace.add(11); return body(up, 0, chief, x * 3);
            case 21: trace.add(21); return -body(up, 1, chief, x);
            case 32: trace.add(31); return body(up, 2, chief, x) ^ 7;
            case 42: {
                trace.add(41);
                int first = body(up, 2, chief, x - 1);
                return first + body(c.kind, 0, chief, 2);
            }
            case 50: trace.add(51); return body(up, 0, chief, x) ^ chief;
            case 61: trace.add(61); return body(up, 1, chief, x) + c.v;
            default: return body(up, act, chief, x);
        }
    }

    int act(int chief, int act, int x) {
        trace.clear();
        if (!isChief(chief) || act < 0 || act > 2) return 0;
        return body(s.chiefs.get(chief).kind, act, chief, x);
    }

    int trace(int i) {
        return i < 0 || i >= Math.min(20, trace.size()) ? -1 : trace.get(i);
    }

    int as(int chief, int k) {
        if (!isChief(chief) || k < 0 || k > 6) return -1;
        return isUnder(s.chiefs.get(chief).kind, k) ? s.chiefs.get(chief).v : -6;
    }

    int image() {
        image = s;
        return s.workers.size();
    }

    int undo() {
        if (image == null) return -3;
        s = image;
        return s.workers.size();
    }

    int count(int what) {
        return switch (what) {
            case 0 -> s.workers.size();
            case 1 -> s.chiefs.size();
            case 2 -> s.houses.size();
            case 3 -> s.book.size();
            case 4 -> s.tape.length();
            case 5 -> trace.size();
            default -> -1;
        };
    }
}
