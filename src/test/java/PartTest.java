/** Promise 6: part tells what is taken together of the keys from low to high. */
final class PartTest {
    public static void main(String[] args) {
        eachWhat();
        edgesOfThePart();
        sumWraps();
        stampsOfKeysWithoutNumbers();
        lowerStampHidesTheElderOne();
        wrongArguments();
        Check.end();
    }

    private static void duePart(StampTables x, int table, int low, int high, long... want) {
        for (int i = 0; i < want.length; i++) {
            int what = i;
            String call = "part(" + table + ", " + low + ", " + high + ", " + what + ")";
            Check.due(call, want[what], () -> x.part(table, low, high, what));
        }
    }

    private static void eachWhat() {
        StampTables x = new StampTables();
        x.put(0, 100, 7, 30);
        x.put(1, 700, -20, 10);
        x.put(2, 511, 5, 20);
        x.put(3, 512, 1000, 5);
        duePart(x, 4, 0, 1023, 4, 992, 100, 700, 30);
        duePart(x, 4, 101, 1023, 3, 985, 511, 700, 20);
        duePart(x, 4, 0, 511, 2, 12, 100, 511, 30);
        duePart(x, 4, 512, 1023, 2, 980, 512, 700, 10);
        duePart(x, 4, 511, 512, 2, 1005, 511, 512, 20);
        duePart(x, 4, 513, 699, 0, 0, -1, -1, -1);
        duePart(x, 2, 0, 1023, 2, -13, 100, 700, 30);
        duePart(x, 0, 0, 1023, 0, 0, -1, -1, -1);
    }

    private static void edgesOfThePart() {
        StampTables x = Filled.withKeys(0, 1, 1022, 1023);
        duePart(x, 4, 0, 0, 1, 0, 0, 0, 0);
        duePart(x, 4, 1023, 1023, 1, 1023, 1023, 1023, 0);
        duePart(x, 4, 1, 1022, 2, 1023, 1, 1022, 0);
        duePart(x, 4, 2, 1021, 0, 0, -1, -1, -1);
        duePart(x, 4, 2, 1022, 1, 1022, 1022, 1022, 0);
        duePart(x, 4, 1, 1021, 1, 1, 1, 1, 0);
    }

    private static void sumWraps() {
        StampTables x = new StampTables();
        x.put(0, 3, Long.MAX_VALUE, 0);
        x.put(1, 900, 1, 0);
        duePart(x, 2, 0, 1023, 2, Long.MIN_VALUE);
        x.put(2, 4, Long.MAX_VALUE, 0);
        duePart(x, 3, 3, 4, 2, -2);
    }

    private static void stampsOfKeysWithoutNumbers() {
        StampTables x = new StampTables();
        x.put(0, 5, 7, 3);
        x.delete(1, 6, 8);
        duePart(x, 2, 0, 1023, 1, 7, 5, 5, 8);
        duePart(x, 2, 6, 6, 0, 0, -1, -1, 8);
        duePart(x, 2, 7, 1023, 0, 0, -1, -1, -1);
        x.delete(2, 5, 0);
        duePart(x, 3, 0, 5, 0, 0, -1, -1, 0);
    }

    /** A key has the stamp of its last change alone, so the greatest of a part can sink. */
    private static void lowerStampHidesTheElderOne() {
        StampTables x = new StampTables();
        x.put(0, 5, 7, 100);
        x.put(1, 5, 7, 1);
        duePart(x, 1, 0, 1023, 1, 7, 5, 5, 100);
        duePart(x, 2, 0, 1023, 1, 7, 5, 5, 1);
    }

    private static void wrongArguments() {
        StampTables x = Filled.withKeys(5);
        Check.dueIllegalArgument("part(-1, 0, 1, 0)", () -> x.part(-1, 0, 1, 0));
        Check.dueIllegalArgument("part(2, 0, 1, 0)", () -> x.part(2, 0, 1, 0));
        Check.dueIllegalArgument("part(1, -1, 1, 0)", () -> x.part(1, -1, 1, 0));
        Check.dueIllegalArgument("part(1, 1024, 1024, 0)", () -> x.part(1, 1024, 1024, 0));
        Check.dueIllegalArgument("part(1, 0, 1024, 0)", () -> x.part(1, 0, 1024, 0));
        Check.dueIllegalArgument("part(1, -2, -1, 0)", () -> x.part(1, -2, -1, 0));
        Check.dueIllegalArgument("part(1, 6, 5, 0)", () -> x.part(1, 6, 5, 0));
        Check.dueIllegalArgument("part(1, 1023, 0, 0)", () -> x.part(1, 1023, 0, 0));
        Check.dueIllegalArgument("part(1, 0, 1, -1)", () -> x.part(1, 0, 1, -1));
        Check.dueIllegalArgument("part(1, 0, 1, 5)", () -> x.part(1, 0, 1, 5));
    }
}
