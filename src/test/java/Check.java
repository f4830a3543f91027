/** What the tests share: a count of checks, and texts fed to a tape. */
final class Check {
    private static int checks, failures;

    private Check() {
    }

    static void due(String what, long got, long want) {
        checks++;
        if (got == want) return;
        failures++;
        if (failures <= 50) System.out.println(what + " answered " + got + ", due is " + want);
    }

    static void feed(ChiefGrades x, String text) {
        for (int i = 0; i < text.length(); i++) x.feed(text.charAt(i));
    }

    static int house(ChiefGrades x, String text) {
        feed(x, text);
        return x.house();
    }

    /** Prints how many there were; the program's end says whether all were as due. */
    static void end(String name) {
        System.out.println(name + ": " + checks + " checks, " + failures + " not as due");
        if (failures != 0 || checks == 0) System.exit(1);
    }
}
