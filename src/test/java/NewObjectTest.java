/** Promise 1: a new object. What is said there of exceptions is tested in RefusedCallsTest. */
final class NewObjectTest {
    public static void main(String[] args) {
        tableZeroAlone();
        tableZeroIsEmpty();
        objectsAreApart();
        Check.end();
    }

    /** "TABLE 0 alone." */
    private static void tableZeroAlone() {
        Subject x = new Subject();
        x.tables().is(1);
        x.stamp(0, 0).is(-1);
        for (int table : Edges.wrongTables(1)) {
            x.stamp(table, 0).isIllegalArgument();
        }
        x.put(0, 0, 0, 0).is(1);
    }

    /** "TABLE 0 is empty." It stays so when others are made from it. */
    private static void tableZeroIsEmpty() {
        for (int key = 0; key <= 1023; key++) {
            Subject x = new Subject();
            dueEmpty(x, key);
            x.put(0, key, 7, 7).is(1);
            x.delete(0, key, 7).is(2);
            dueEmpty(x, key);
        }
    }

    private static void dueEmpty(Subject x, int key) {
        x.get(0, key).isUnsupported();
        x.stamp(0, key).is(-1);
        x.part(0, 0, 1023, 0).is(0);
        x.part(0, 0, 1023, 1).is(0);
        x.part(0, 0, 1023, 2).is(-1);
        x.part(0, 0, 1023, 3).is(-1);
        x.part(0, 0, 1023, 4).is(-1);
        x.at(0, 0).isIndexOutOfBounds();
        x.differ(0, 0).is(0);
    }

    private static void objectsAreApart() {
        Subject x = new Subject();
        x.put(0, 1, 2, 3).is(1);
        Subject y = new Subject();
        y.tables().is(1);
        y.put(0, 1, 4, 5).is(1);
        x.get(1, 1).is(2);
        y.get(1, 1).is(4);
    }
}
