/** Promise 5: stamp. */
final class StampTest {
    public static void main(String[] args) {
        theStampOfAKey();
        keysWithoutNumbersHaveOneToo();
        wrongTable();
        wrongKey();
        Check.end();
    }

    /** "The STAMP of a KEY." */
    private static void theStampOfAKey() {
        Filled.lookAtEveryKey((x, table, key) -> x.stamp(table, key).is(key < table ? key : -1));
    }

    private static void keysWithoutNumbersHaveOneToo() {
        Subject x = new Subject();
        x.put(0, 5, 7, 1000000000).is(1);
        x.put(1, 5, 7, 0).is(2);
        x.delete(2, 5, 12).is(3);
        x.put(2, 5, 7, 11).is(4);
        x.stamp(0, 5).is(-1);
        x.stamp(1, 5).is(1000000000);
        x.stamp(2, 5).is(0);
        x.stamp(3, 5).is(12);
        x.stamp(4, 5).is(11);
        x.stamp(4, 4).is(-1);
    }

    /** "IllegalArgumentException: table". */
    private static void wrongTable() {
        Subject x = Filled.withKeys(5, 6);
        for (int table : Edges.wrongTables(3)) {
            x.stamp(table, 5).isIllegalArgument();
        }
        x.stamp(0, 5).is(-1);
        x.stamp(2, 5).is(0);
    }

    /** "IllegalArgumentException: .. key". */
    private static void wrongKey() {
        Subject x = Filled.withKeys(0, 5, 1023);
        for (int key : Edges.WRONG_KEYS) {
            x.stamp(3, key).isIllegalArgument();
        }
        x.stamp(3, 0).is(0);
        x.stamp(3, 1023).is(0);
    }
}
