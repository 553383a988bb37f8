/** Promise 9: tables tells how many tables there are. */
final class TablesTest {
    public static void main(String[] args) {
        changesCountAndLooksDoNot();
        upToFourHundred();
        Check.end();
    }

    private static void changesCountAndLooksDoNot() {
        StampTables x = new StampTables();
        Check.due("tables()", 1, () -> x.tables());
        x.put(0, 5, 7, 3);
        Check.due("tables() after put", 2, () -> x.tables());
        x.delete(0, 5, 3);
        Check.due("tables() after delete", 3, () -> x.tables());
        x.get(1, 5);
        x.stamp(1, 5);
        x.part(1, 0, 1023, 0);
        x.at(1, 0);
        x.differ(0, 1);
        Check.due("tables() after looks", 3, () -> x.tables());
        Check.dueIllegalArgument("put(3, 0, 0, 0)", () -> x.put(3, 0, 0, 0));
        Check.due("tables() after a throw", 3, () -> x.tables());
    }

    private static void upToFourHundred() {
        StampTables x = new StampTables();
        for (int i = 1; i < 400; i++) {
            int want = i + 1;
            x.put(0, 0, 0, 0);
            Check.due("tables()", want, () -> x.tables());
        }
        Check.dueIndexOutOfBounds("put(0, 0, 0, 0)", () -> x.put(0, 0, 0, 0));
        Check.due("tables() when full", 400, () -> x.tables());
    }
}
