/** The signs with which a text of a HOUSE can go on, told sign by sign by what stands so far. */
final class Spelling {
    private static final String[] WORDS = {"more ", "less ", "five ", "one ", "pay "};

    private enum Due { WORD, SHARE, SHARE_2, GAIN, GAIN_2, PART, RELATION, NUMBER, NUMBER_2, BEHIND_PART }

    private Due due = Due.WORD;
    private String word = "";
    private String open = "";
    private boolean hasE;
    private int clauses = 1;

    boolean goesOnWith(char c) {
        switch (due) {
            case WORD: return word(c);
            case SHARE: return digit(c, Due.SHARE_2);
            case SHARE_2: return secondDigit(c) || clauseEnd(c);
            case GAIN: return digit(c, Due.GAIN_2);
            case GAIN_2: return secondDigit(c) || blank(c);
            case PART: return part(c);
            case RELATION: return relation(c);
            case NUMBER: return digit(c, Due.NUMBER_2);
            case NUMBER_2: return secondDigit(c) || behindPart(c);
            default: return behindPart(c);
        }
    }

    boolean mayEnd() {
        if (due == Due.SHARE_2) return true;
        return (due == Due.NUMBER_2 || due == Due.BEHIND_PART) && !open.contains("(");
    }

    private boolean word(char c) {
        word += c;
        for (String one : WORDS) {
            if (one.equals(word)) {
                hasE = one.charAt(0) == 'm' || one.charAt(0) == 'l';
                due = hasE ? Due.GAIN : Due.SHARE;
            }
            if (one.startsWith(word)) return true;
        }
        return false;
    }

    private boolean zero;
    private boolean two;

    private boolean digit(char c, Due then) {
        zero = c == '0';
        two = false;
        due = then;
        return c >= '0' && c <= '9';
    }

    private boolean secondDigit(char c) {
        if (zero || two || c < '0' || c > '9') return false;
        two = true;
        return true;
    }

    private boolean blank(char c) {
        due = Due.PART;
        return c == ' ';
    }

    private boolean clauseEnd(char c) {
        clauses++;
        word = "";
        due = Due.WORD;
        return c == ';' && clauses <= 10;
    }

    private boolean part(char c) {
        if (c == '!' || c == '(') {
            open += c;
            return open.length() <= 5;
        }
        due = Due.RELATION;
        return "wckbyt".contains("" + c);
    }

    private boolean relation(char c) {
        due = Due.NUMBER;
        return c == '<' || c == '=' || c == '>';
    }

    /** The F that just ended ends every ! that stands right ahead of it. */
    private boolean behindPart(char c) {
        endNots();
        if (c == '&' || c == '|') {
            due = Due.PART;
            return true;
        }
        if (c == ')') {
            if (open.isEmpty()) return false;
            open = open.substring(0, open.length() - 1);
            endNots();
            due = Due.BEHIND_PART;
            return true;
        }
        return open.isEmpty() && clauseEnd(c);
    }

    private void endNots() {
        while (open.endsWith("!")) open = open.substring(0, open.length() - 1);
    }
}
