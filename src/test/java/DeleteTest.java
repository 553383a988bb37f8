/** Promise 3: delete makes a new table in which the key has no number. */
final class DeleteTest {
    public static void main(String[] args) {
        newTableWithoutTheNumber();
        keyThatHadNone();
        numberComesBack();
        wrongArguments();
        fourHundredTables();
        Check.end();
    }

    private static void newTableWithoutTheNumber() {
        StampTables x = new StampTables();
        x.put(0, 5, 7, 3);
        x.put(1, 6, 8, 4);
        Check.due("delete(2, 5, 2)", 3, () -> x.delete(2, 5, 2));
        Check.dueUnsupported("get(3, 5)", () -> x.get(3, 5));
        Check.due("stamp(3, 5)", 2, () -> x.stamp(3, 5));
        Check.due("get(3, 6)", 8, () -> x.get(3, 6));
        Check.due("get(2, 5)", 7, () -> x.get(2, 5));
        Check.due("stamp(2, 5)", 3, () -> x.stamp(2, 5));
        Check.due("part(3, 0, 1023, 0)", 1, () -> x.part(3, 0, 1023, 0));
        Check.due("part(3, 0, 1023, 1)", 8, () -> x.part(3, 0, 1023, 1));
        Check.due("part(3, 0, 1023, 2)", 6, () -> x.part(3, 0, 1023, 2));
    }

    private static void keyThatHadNone() {
        StampTables x = new StampTables();
        Check.due("delete(0, 1023, 9)", 1, () -> x.delete(0, 1023, 9));
        Check.due("delete(1, 1023, 1000000000)", 2, () -> x.delete(1, 1023, 1000000000));
        Check.due("delete(2, 0, 0)", 3, () -> x.delete(2, 0, 0));
        Check.dueUnsupported("get(3, 1023)", () -> x.get(3, 1023));
        Check.due("stamp(1, 1023)", 9, () -> x.stamp(1, 1023));
        Check.due("stamp(3, 1023)", 1000000000, () -> x.stamp(3, 1023));
        Check.due("stamp(3, 0)", 0, () -> x.stamp(3, 0));
        Check.due("stamp(0, 1023)", -1, () -> x.stamp(0, 1023));
        Check.due("part(3, 0, 1023, 0)", 0, () -> x.part(3, 0, 1023, 0));
    }

    private static void numberComesBack() {
        StampTables x = new StampTables();
        x.put(0, 5, 7, 3);
        x.delete(1, 5, 4);
        x.put(2, 5, 9, 1);
        Check.due("get(3, 5)", 9, () -> x.get(3, 5));
        Check.due("stamp(3, 5)", 1, () -> x.stamp(3, 5));
        Check.dueUnsupported("get(2, 5)", () -> x.get(2, 5));
    }

    private static void wrongArguments() {
        StampTables x = new StampTables();
        Check.dueIllegalArgument("delete(-1, 0, 0)", () -> x.delete(-1, 0, 0));
        Check.dueIllegalArgument("delete(1, 0, 0)", () -> x.delete(1, 0, 0));
        Check.dueIllegalArgument("delete(0, -1, 0)", () -> x.delete(0, -1, 0));
        Check.dueIllegalArgument("delete(0, 1024, 0)", () -> x.delete(0, 1024, 0));
        Check.dueIllegalArgument("delete(0, 0, -1)", () -> x.delete(0, 0, -1));
        Check.dueIllegalArgument("delete(0, 0, 1000000001)", () -> x.delete(0, 0, 1000000001));
        Check.due("tables()", 1, () -> x.tables());
    }

    private static void fourHundredTables() {
        StampTables x = Filled.toTheLimit();
        Check.dueIndexOutOfBounds("delete(399, 0, 0)", () -> x.delete(399, 0, 0));
        Check.due("tables()", 400, () -> x.tables());
        Check.due("get(399, 0)", 0, () -> x.get(399, 0));
        StampTables y = new StampTables();
        for (int i = 1; i < 400; i++) {
            int table = i;
            Check.due("delete as call " + i, table, () -> y.delete(table - 1, 0, 0));
        }
        Check.dueIndexOutOfBounds("delete(0, 0, 0)", () -> y.delete(0, 0, 0));
    }
}
