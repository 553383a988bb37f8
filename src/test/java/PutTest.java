/** Promise 2: put makes a new table in which the key has the number. */
final class PutTest {
    public static void main(String[] args) {
        newTableEachTime();
        elderTablesStay();
        numbersAndStampsAtTheirEdges();
        wrongArguments();
        fourHundredTables();
        Check.end();
    }

    private static void newTableEachTime() {
        StampTables x = new StampTables();
        Check.due("put(0, 5, 7, 3)", 1, () -> x.put(0, 5, 7, 3));
        Check.due("put(1, 5, 7, 3) that changes nothing", 2, () -> x.put(1, 5, 7, 3));
        Check.due("put(0, 9, 1, 1) from an elder one", 3, () -> x.put(0, 9, 1, 1));
        Check.due("tables()", 4, () -> x.tables());
        Check.dueUnsupported("get(3, 5)", () -> x.get(3, 5));
        Check.due("get(3, 9)", 1, () -> x.get(3, 9));
    }

    private static void elderTablesStay() {
        StampTables x = new StampTables();
        x.put(0, 5, 7, 3);
        x.put(1, 5, 8, 2);
        x.put(1, 6, 9, 1);
        Check.due("get(1, 5)", 7, () -> x.get(1, 5));
        Check.due("stamp(1, 5)", 3, () -> x.stamp(1, 5));
        Check.due("get(2, 5)", 8, () -> x.get(2, 5));
        Check.due("stamp(2, 5), a stamp below the one before", 2, () -> x.stamp(2, 5));
        Check.due("get(3, 5)", 7, () -> x.get(3, 5));
        Check.due("get(3, 6)", 9, () -> x.get(3, 6));
        Check.dueUnsupported("get(0, 5)", () -> x.get(0, 5));
        Check.dueUnsupported("get(2, 6)", () -> x.get(2, 6));
        Check.due("stamp(0, 5)", -1, () -> x.stamp(0, 5));
    }

    private static void numbersAndStampsAtTheirEdges() {
        StampTables x = new StampTables();
        x.put(0, 0, Long.MIN_VALUE, 0);
        x.put(1, 1023, Long.MAX_VALUE, 1000000000);
        x.put(2, 512, 0, 1);
        x.put(3, 511, -1, 2);
        Check.due("get(4, 0)", Long.MIN_VALUE, () -> x.get(4, 0));
        Check.due("get(4, 1023)", Long.MAX_VALUE, () -> x.get(4, 1023));
        Check.due("get(4, 512)", 0, () -> x.get(4, 512));
        Check.due("get(4, 511)", -1, () -> x.get(4, 511));
        Check.due("stamp(4, 0)", 0, () -> x.stamp(4, 0));
        Check.due("stamp(4, 1023)", 1000000000, () -> x.stamp(4, 1023));
    }

    private static void wrongArguments() {
        StampTables x = new StampTables();
        Check.dueIllegalArgument("put(-1, 0, 0, 0)", () -> x.put(-1, 0, 0, 0));
        Check.dueIllegalArgument("put(1, 0, 0, 0)", () -> x.put(1, 0, 0, 0));
        Check.dueIllegalArgument("put(MAX, 0, 0, 0)", () -> x.put(Integer.MAX_VALUE, 0, 0, 0));
        Check.dueIllegalArgument("put(0, -1, 0, 0)", () -> x.put(0, -1, 0, 0));
        Check.dueIllegalArgument("put(0, 1024, 0, 0)", () -> x.put(0, 1024, 0, 0));
        Check.dueIllegalArgument("put(0, MIN, 0, 0)", () -> x.put(0, Integer.MIN_VALUE, 0, 0));
        Check.dueIllegalArgument("put(0, 0, 0, -1)", () -> x.put(0, 0, 0, -1));
        Check.dueIllegalArgument("put(0, 0, 0, 1000000001)", () -> x.put(0, 0, 0, 1000000001));
        Check.due("tables()", 1, () -> x.tables());
    }

    private static void fourHundredTables() {
        StampTables x = new StampTables();
        for (int i = 1; i < 400; i++) {
            int table = i;
            Check.due("put as call " + i, table, () -> x.put(table - 1, table, table, table));
        }
        Check.dueIndexOutOfBounds("put(399, 0, 0, 0)", () -> x.put(399, 0, 0, 0));
        Check.dueIndexOutOfBounds("put(0, 0, 0, 0)", () -> x.put(0, 0, 0, 0));
        Check.due("tables()", 400, () -> x.tables());
        Check.due("part(399, 0, 1023, 0)", 399, () -> x.part(399, 0, 1023, 0));
        Check.due("get(399, 399)", 399, () -> x.get(399, 399));
    }
}
