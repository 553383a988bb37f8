/** Promise 9: tables. */
final class TablesTest {
    public static void main(String[] args) {
        changesCount();
        looksDoNotCount();
        refusedChangesDoNotCount();
        upTo400();
        Check.end();
    }

    /** "How many TABLES there are." */
    private static void changesCount() {
        Subject x = new Subject();
        x.tables().is(1);
        x.put(0, 5, 7, 3).is(1);
        x.tables().is(2);
        x.delete(0, 5, 3).is(2);
        x.tables().is(3);
        x.tables().is(3);
    }

    private static void looksDoNotCount() {
        Subject x = Filled.withKeys(5);
        x.get(1, 5).is(5);
        x.stamp(1, 5).is(0);
        x.part(1, 0, 1023, 0).is(1);
        x.at(1, 0).is(5);
        x.differ(0, 1).is(1);
        x.tables().is(2);
    }

    private static void refusedChangesDoNotCount() {
        Subject x = new Subject();
        x.put(1, 0, 0, 0).isIllegalArgument();
        x.tables().is(1);
        x.delete(0, 1024, 0).isIllegalArgument();
        x.tables().is(1);
    }

    /** One, all numbers between, 400, and never more. */
    private static void upTo400() {
        for (int tables = 1; tables <= 400; tables++) {
            Filled.upTo(tables).tables().is(tables);
        }
        Subject x = Filled.toTheLimit();
        x.put(0, 0, 0, 0).isIndexOutOfBounds();
        x.delete(0, 0, 0).isIndexOutOfBounds();
        x.tables().is(400);
    }
}
