/**
 * FAULT, sign by sign: "the place of the first byte with which no HOUSE can go on (the size, if it
 * ends too early)". Each row tells a text, the signs with which it can go on, and whether it is a
 * HOUSE as it stands; all 128 signs are put behind it.
 */
public final class NextSignTest {
    private static final String WORD = "mlfop", DIGIT = "0123456789", LETTER = "wckbyt", PART = LETTER + "!(";
    private static final String END = "&|;", INSIDE = "&|)";

    public static void main(String[] args) {
        words();
        shares();
        gains();
        tests();
        joined();
        brackets();
        fiveOpen();
        lastClause();
        hundred();
        Check.end("NextSignTest");
    }

    private static void row(String text, String signs, boolean isHouse) {
        all(text, signs, isHouse);
        // the same behind another clause
        all("pay 1;" + text, signs, isHouse);
    }

    private static void all(String text, String signs, boolean isHouse) {
        int fault = -10 - text.length();
        Check.due("3: '" + text + "'", read(text), isHouse ? 0 : fault);
        for (char sign = 0; sign < 128; sign++) {
            String what = "3: '" + text + "' and sign " + (int) sign;
            if (signs.indexOf(sign) < 0) {
                Check.due(what, read(text + sign), fault);
                Check.due(what + ", and so on", read(text + sign + ";one 1"), fault);
            } else {
                int answer = read(text + sign);
                Check.due(what + " goes on", answer == 0 || answer == fault - 1 ? 1 : 0, 1);
            }
        }
    }

    private static int read(String text) {
        ChiefGrades x = new ChiefGrades();
        Check.feed(x, text);
        Check.due("2: signs", x.count(4), text.length());
        int answer = x.house();
        Check.due("3: THE TAPE is empty then", x.count(4), 0);
        Check.due("3: houses", x.count(2), answer == 0 ? 1 : 0);
        return answer;
    }

    private static void words() {
        row("", WORD, false);
        for (String word : new String[] {"more ", "less ", "five ", "one ", "pay "}) {
            for (int i = 1; i < word.length(); i++) row(word.substring(0, i), word.substring(i, i + 1), false);
            row(word, DIGIT, false);
        }
    }

    /** "n 1 or 2 digits, no 0 ahead of another". */
    private static void shares() {
        for (String word : new String[] {"five ", "one ", "pay "}) {
            row(word + "0", ";", true);
            for (int n = 1; n <= 9; n++) row(word + n, DIGIT + ";", true);
            row(word + "10", ";", true);
            row(word + "99", ";", true);
            row(word + "1;", WORD, false);
        }
    }

    /** "one blank ahead of each part behind the word". */
    private static void gains() {
        for (String word : new String[] {"more ", "less "}) {
            row(word + "0", " ", false);
            row(word + "1", DIGIT + " ", false);
            row(word + "9", DIGIT + " ", false);
            row(word + "10", " ", false);
            row(word + "99", " ", false);
            row(word + "0 ", PART, false);
            row(word + "99 ", PART, false);
        }
    }

    private static void tests() {
        for (int i = 0; i < 6; i++) {
            String text = "more 1 " + LETTER.charAt(i);
            row(text, "<=>", false);
            for (int k = 0; k < 3; k++) {
                String test = text + "<=>".charAt(k);
                row(test, DIGIT, false);
                row(test + "0", END, true);
                row(test + "1", DIGIT + END, true);
                row(test + "9", DIGIT + END, true);
                row(test + "10", END, true);
                row(test + "99", END, true);
            }
        }
        row("more 1 w=1;", WORD, false);
    }

    private static void joined() {
        row("less 1 w=1&", PART, false);
        row("less 1 w=1|", PART, false);
        row("less 1 w=1&c=0|", PART, false);
        row("less 1 w=1|c=0&", PART, false);
        row("less 1 w=1&c=0|k=2", DIGIT + END, true);
        row("less 1 !", PART, false);
        row("less 1 !w=1", DIGIT + END, true);
        row("less 1 !w=10", END, true);
        row("less 1 w=1&!", PART, false);
        row("less 1 w=1&!c=0|!", PART, false);
    }

    private static void brackets() {
        row("more 1 (", PART, false);
        row("more 1 (w=1", DIGIT + INSIDE, false);
        row("more 1 (w=10", INSIDE, false);
        row("more 1 (w=0", INSIDE, false);
        row("more 1 (w=1&", PART, false);
        row("more 1 (w=1|", PART, false);
        row("more 1 (w=1)", END, true);
        row("more 1 ((w=1)", INSIDE, false);
        row("more 1 ((w=1))", END, true);
        row("more 1 !(w=1", DIGIT + INSIDE, false);
        row("more 1 !(w=1)", END, true);
        row("more 1 (!w=1", DIGIT + INSIDE, false);
        row("more 1 (!(w=1)", INSIDE, false);
        row("more 1 (w=1)&", PART, false);
        row("more 1 (w=1)|(", PART, false);
    }

    /** "At most 5 of ! and ( are open (a ( till its ) , a ! till its F ends)". */
    private static void fiveOpen() {
        row("more 1 !!!!", PART, false);
        row("more 1 ((((", PART, false);
        row("more 1 !!!!!", LETTER, false);
        row("more 1 (((((", LETTER, false);
        row("more 1 !(!(!", LETTER, false);
        row("more 1 (!(!(", LETTER, false);
        row("more 1 !!!!!w=1", DIGIT + END, true);
        row("more 1 !!!!!w=1&", PART, false);
        row("more 1 !!!!!w=1|!!!!", PART, false);
        row("more 1 !!!!!w=1|!!!!!", LETTER, false);
        row("more 1 (((((w=1&", LETTER, false);
        row("more 1 (((((w=1|", LETTER, false);
        row("more 1 (((((w=1)", INSIDE, false);
        row("more 1 (((((w=1)&", PART, false);
        row("more 1 (((((w=1)&!", LETTER, false);
        row("more 1 (((((w=1)&(", LETTER, false);
        row("more 1 (((((w=1))&!", PART, false);
        row("more 1 (((((w=1)))))", END, true);
        row("more 1 ((((!w=1&", PART, false);
        row("more 1 ((((!w=1&!", LETTER, false);
        row("more 1 !((((w=1)", INSIDE, false);
        row("more 1 !((((w=1)&", PART, false);
        row("more 1 !((((w=1)&!", LETTER, false);
        row("more 1 !((((w=1))))", END, true);
        row("more 1 !((((w=1))))&!!!!", PART, false);
        row("more 1 !((((w=1))))&!!!!!", LETTER, false);
        row("more 1 !!(((w=1)))|(", PART, false);
        row("more 1 (!(!(w=1)))", END, true);
        row("more 1 (!(!(w=1))&", PART, false);
        row("more 1 (!(!(w=1)&", PART, false);
        row("more 1 (!(!(w=1)&!", PART, false);
        row("more 1 (!(!(w=1)&!!", LETTER, false);
        row("more 1 !!!!!w=1;less 1 !!!!!", LETTER, false);
    }

    /** "CLAUSES, 10 at most, with ; between": behind the tenth there is no ; any more. */
    private static void lastClause() {
        String eight = "one 1;".repeat(8);
        all(eight + "one 1", DIGIT + ";", true);
        all(eight + "more 1 w=10", END, true);
        String nine = eight + "pay 5;";
        all(nine, WORD, false);
        all(nine + "one 1", DIGIT, true);
        all(nine + "one 0", "", true);
        all(nine + "one 10", "", true);
        all(nine + "less 1 w=1", DIGIT + "&|", true);
        all(nine + "less 1 w=10", "&|", true);
        all(nine + "less 1 (w=1)", "&|", true);
        all(nine + "less 1 (w=1", DIGIT + INSIDE, false);
    }

    /** THE TAPE has 100 signs at most; a text may take them all, and may end too early there. */
    private static void hundred() {
        String text = Scene.hundred();
        Check.due("the text's size", text.length(), 100);
        for (int size = 0; size <= 100; size++) {
            String start = text.substring(0, size);
            boolean isTest = size >= 11 && size < 95 && Character.isDigit(start.charAt(size - 1));
            boolean isHouse = isTest || size == 100;
            Check.due("3: the first " + size + " of a hundred", read(start), isHouse ? 0 : -10 - size);
        }
        for (int place = 0; place < 100; place++) {
            String spoilt = text.substring(0, place) + '~' + text.substring(place + 1);
            Check.due("3: spoilt at " + place, read(spoilt), -10 - place);
        }
    }
}
