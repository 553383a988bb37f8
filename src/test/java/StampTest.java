/** Promise 5: stamp tells the stamp of the change that wrote a key last. */
final class StampTest {
    public static void main(String[] args) {
        everyKeyOfEveryTable();
        lastChangeCounts();
        wrongArguments();
        Check.end();
    }

    private static void everyKeyOfEveryTable() {
        StampTables x = Filled.toTheLimit();
        for (int t = 0; t < Filled.LIMIT; t += 57) {
            int table = t;
            for (int k = 0; k <= 1023; k++) {
                int key = k;
                Check.due("stamp(" + table + ", " + key + ")", key < table ? key : -1, () -> x.stamp(table, key));
            }
        }
    }

    private static void lastChangeCounts() {
        StampTables x = new StampTables();
        x.put(0, 5, 7, 1000000000);
        x.put(1, 5, 7, 0);
        x.delete(2, 5, 12);
        x.put(2, 5, 7, 11);
        Check.due("stamp(0, 5)", -1, () -> x.stamp(0, 5));
        Check.due("stamp(1, 5)", 1000000000, () -> x.stamp(1, 5));
        Check.due("stamp(2, 5)", 0, () -> x.stamp(2, 5));
        Check.due("stamp(3, 5)", 12, () -> x.stamp(3, 5));
        Check.due("stamp(4, 5)", 11, () -> x.stamp(4, 5));
        Check.due("stamp(4, 4), beside it", -1, () -> x.stamp(4, 4));
    }

    private static void wrongArguments() {
        StampTables x = Filled.withKeys(5);
        Check.dueIllegalArgument("stamp(-1, 5)", () -> x.stamp(-1, 5));
        Check.dueIllegalArgument("stamp(2, 5)", () -> x.stamp(2, 5));
        Check.dueIllegalArgument("stamp(400, 5)", () -> x.stamp(400, 5));
        Check.dueIllegalArgument("stamp(1, -1)", () -> x.stamp(1, -1));
        Check.dueIllegalArgument("stamp(1, 1024)", () -> x.stamp(1, 1024));
    }
}
