/** Promise 8: differ tells how many keys have another number, or one in just one of two tables. */
final class DifferTest {
    public static void main(String[] args) {
        otherNumbersAndOneSided();
        stampsDoNotMatter();
        numberZeroIsNotNone();
        manyKeys();
        wrongTables();
        Check.end();
    }

    private static void dueDiffer(StampTables x, int a, int b, long want) {
        Check.due("differ(" + a + ", " + b + ")", want, () -> x.differ(a, b));
        Check.due("differ(" + b + ", " + a + ")", want, () -> x.differ(b, a));
    }

    private static void otherNumbersAndOneSided() {
        StampTables x = new StampTables();
        x.put(0, 5, 7, 3);
        x.put(1, 5, 8, 3);
        x.put(2, 1023, 1, 3);
        x.put(0, 0, 4, 3);
        dueDiffer(x, 0, 0, 0);
        dueDiffer(x, 3, 3, 0);
        dueDiffer(x, 0, 1, 1);
        dueDiffer(x, 1, 2, 1);
        dueDiffer(x, 1, 3, 2);
        dueDiffer(x, 3, 4, 3);
        dueDiffer(x, 0, 4, 1);
    }

    private static void stampsDoNotMatter() {
        StampTables x = new StampTables();
        x.put(0, 5, 7, 3);
        x.put(0, 5, 7, 4);
        x.delete(0, 6, 9);
        x.delete(1, 5, 9);
        dueDiffer(x, 1, 2, 0);
        dueDiffer(x, 0, 3, 0);
        dueDiffer(x, 0, 4, 0);
        dueDiffer(x, 3, 4, 0);
        dueDiffer(x, 1, 4, 1);
    }

    private static void numberZeroIsNotNone() {
        StampTables x = new StampTables();
        x.put(0, 5, 0, 3);
        x.delete(1, 5, 3);
        dueDiffer(x, 0, 1, 1);
        dueDiffer(x, 1, 2, 1);
        dueDiffer(x, 0, 2, 0);
    }

    /** The sums of the whole tables are the same, yet two keys differ. */
    private static void manyKeys() {
        StampTables x = new StampTables();
        x.put(0, 5, 1, 0);
        x.put(1, 6, 2, 0);
        x.put(0, 5, 2, 0);
        x.put(3, 6, 1, 0);
        dueDiffer(x, 2, 4, 2);
        StampTables y = Filled.toTheLimit();
        dueDiffer(y, 0, 399, 399);
        dueDiffer(y, 200, 399, 199);
    }

    private static void wrongTables() {
        StampTables x = Filled.withKeys(5);
        Check.dueIllegalArgument("differ(-1, 0)", () -> x.differ(-1, 0));
        Check.dueIllegalArgument("differ(0, -1)", () -> x.differ(0, -1));
        Check.dueIllegalArgument("differ(2, 0)", () -> x.differ(2, 0));
        Check.dueIllegalArgument("differ(0, 2)", () -> x.differ(0, 2));
        Check.dueIllegalArgument("differ(2, 2)", () -> x.differ(2, 2));
        Check.dueIllegalArgument("differ(400, 400)", () -> x.differ(400, 400));
    }
}
