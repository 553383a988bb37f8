/** Promise 1: a new object has table 0 alone, and that is empty. */
final class NewObjectTest {
    public static void main(String[] args) {
        tableZeroAlone();
        tableZeroIsEmpty();
        objectsAreApart();
        firstNamedExceptionWins();
        throwingCallsChangeNothing();
        Check.end();
    }

    private static void tableZeroAlone() {
        StampTables x = new StampTables();
        Check.due("tables()", 1, () -> x.tables());
        Check.dueIllegalArgument("stamp(1, 0)", () -> x.stamp(1, 0));
        Check.dueIllegalArgument("stamp(-1, 0)", () -> x.stamp(-1, 0));
    }

    private static void tableZeroIsEmpty() {
        StampTables x = new StampTables();
        for (int i = 0; i <= 1023; i++) {
            int key = i;
            Check.dueUnsupported("get(0, " + key + ")", () -> x.get(0, key));
            Check.due("stamp(0, " + key + ")", -1, () -> x.stamp(0, key));
        }
        long[] ofNothing = {0, 0, -1, -1, -1};
        for (int i = 0; i < ofNothing.length; i++) {
            int what = i;
            Check.due("part(0, 0, 1023, " + what + ")", ofNothing[what], () -> x.part(0, 0, 1023, what));
        }
        Check.dueIndexOutOfBounds("at(0, 0)", () -> x.at(0, 0));
        Check.due("differ(0, 0)", 0, () -> x.differ(0, 0));
    }

    private static void objectsAreApart() {
        StampTables x = new StampTables();
        x.put(0, 1, 2, 3);
        StampTables y = new StampTables();
        Check.due("tables() of another object", 1, () -> y.tables());
        y.put(0, 1, 4, 5);
        Check.due("get(1, 1)", 2, () -> x.get(1, 1));
    }

    /** In a full object a wrong argument is named before the full room. */
    private static void firstNamedExceptionWins() {
        StampTables x = Filled.toTheLimit();
        Check.dueIllegalArgument("put(400, 0, 0, 0)", () -> x.put(400, 0, 0, 0));
        Check.dueIllegalArgument("put(-1, 0, 0, 0)", () -> x.put(-1, 0, 0, 0));
        Check.dueIllegalArgument("put(0, 1024, 0, 0)", () -> x.put(0, 1024, 0, 0));
        Check.dueIllegalArgument("put(0, 0, 0, -1)", () -> x.put(0, 0, 0, -1));
        Check.dueIllegalArgument("delete(400, 0, 0)", () -> x.delete(400, 0, 0));
        Check.dueIllegalArgument("delete(0, -1, 0)", () -> x.delete(0, -1, 0));
        Check.dueIllegalArgument("delete(0, 0, 1000000001)", () -> x.delete(0, 0, 1000000001));
        Check.dueIllegalArgument("at(400, -1)", () -> x.at(400, -1));
        Check.dueIllegalArgument("get(400, 0)", () -> x.get(400, 0));
    }

    private static void throwingCallsChangeNothing() {
        StampTables x = new StampTables();
        x.put(0, 5, 7, 3);
        Check.dueIllegalArgument("put(2, 5, 8, 4)", () -> x.put(2, 5, 8, 4));
        Check.dueIllegalArgument("put(1, -1, 8, 4)", () -> x.put(1, -1, 8, 4));
        Check.dueIllegalArgument("put(1, 5, 8, -1)", () -> x.put(1, 5, 8, -1));
        Check.dueIllegalArgument("delete(1, 5, -1)", () -> x.delete(1, 5, -1));
        Check.dueIllegalArgument("part(1, 9, 8, 0)", () -> x.part(1, 9, 8, 0));
        Check.dueUnsupported("get(1, 6)", () -> x.get(1, 6));
        Check.dueIndexOutOfBounds("at(1, 1)", () -> x.at(1, 1));
        Check.due("tables()", 2, () -> x.tables());
        Check.due("get(1, 5)", 7, () -> x.get(1, 5));
        Check.due("stamp(1, 5)", 3, () -> x.stamp(1, 5));
        Check.due("part(1, 0, 1023, 0)", 1, () -> x.part(1, 0, 1023, 0));
        Check.due("put(1, 6, 8, 4)", 2, () -> x.put(1, 6, 8, 4));
    }
}
