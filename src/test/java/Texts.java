import java.util.Random;

/** Texts of houses by chance, true ones and spoilt ones. */
final class Texts {
    private final Random random;

    Texts(Random random) {
        this.random = random;
    }

    String house() {
        int clauses = 1 + random.nextInt(random.nextInt(4) == 0 ? 11 : 5);
        StringBuilder all = new StringBuilder(clause());
        for (int i = 1; i < clauses; i++) {
            String next = clause();
            if (all.length() + 1 + next.length() <= 100) all.append(';').append(next);
        }
        return all.toString();
    }

    String any() {
        StringBuilder text = new StringBuilder(house());
        int spoilt = random.nextInt(3);
        for (int i = 0; i < spoilt; i++) spoil(text);
        return text.toString();
    }

    private void spoil(StringBuilder text) {
        String signs = "mlfop oreiv;|&!()<=>0123456789wckbytx";
        char sign = random.nextInt(8) == 0 ? (char) random.nextInt(128) : signs.charAt(random.nextInt(signs.length()));
        int at = random.nextInt(text.length() + 1);
        switch (random.nextInt(4)) {
            case 0: text.insert(at, sign); break;
            case 1: text.setLength(at); break;
            case 2: if (at < text.length()) text.setCharAt(at, sign); break;
            default: if (at < text.length()) text.deleteCharAt(at);
        }
    }

    private String clause() {
        switch (random.nextInt(10)) {
            case 0: return "pay " + random.nextInt(100);
            case 1: return "five " + number();
            case 2: case 3: return "one " + number();
            case 4: case 5: return "less " + random.nextInt(100) + " " + e(0);
            default: return "more " + random.nextInt(60) + " " + e(0);
        }
    }

    private int number() {
        return random.nextInt(4) == 0 ? random.nextInt(100) : random.nextInt(11);
    }

    private String e(int open) {
        String e = t(open);
        while (random.nextInt(4) == 0) e += "|" + t(open);
        return e;
    }

    private String t(int open) {
        String t = f(open);
        while (random.nextInt(4) == 0) t += "&" + f(open);
        return t;
    }

    private String f(int open) {
        int way = random.nextInt(open > 5 ? 1 : 5);
        if (way == 4) return "!" + f(open + 1);
        if (way == 3) return "(" + e(open + 1) + ")";
        return "" + "wckbyt".charAt(random.nextInt(6)) + "<=>".charAt(random.nextInt(3))
                + (random.nextInt(8) == 0 ? random.nextInt(100) : random.nextInt(10));
    }
}
