/** Counts the answers that are not as due, prints the first of them, and ends with exit code 1 if any. */
final class Check {
    private static final int MOST_PRINTED = 20;

    private static int looks = 0;
    private static int wrong = 0;

    private Check() {}

    static void due(String what, String got, String want) {
        looks++;
        if (!got.equals(want)) {
            wrong++;
            tell(what + ": " + got + ", due is " + want);
        }
    }

    static void dueTrue(String what, boolean holds) {
        due(what, String.valueOf(holds), "true");
    }

    /** A test that looked at nothing has failed too. */
    static void end() {
        if (wrong != 0 || looks == 0) {
            System.out.println(wrong + " of " + looks + " answers are not as due");
            System.exit(1);
        }
        System.out.println(looks + " answers are as due");
    }

    private static void tell(String line) {
        if (wrong <= MOST_PRINTED) {
            System.out.println(line);
        }
    }
}
