/** Promise 4: get. */
final class GetTest {
    public static void main(String[] args) {
        theNumberOfAKey();
        none();
        wrongTable();
        wrongKey();
        Check.end();
    }

    /** "The number of a KEY." */
    private static void theNumberOfAKey() {
        Filled.lookAtEveryKey((x, table, key) -> {
            if (key < table) {
                x.get(table, key).is(10L * key);
            } else {
                x.get(table, key).isUnsupported();
            }
        });
    }

    /** "UnsupportedOperationException: none." Never written, or deleted; the number 0 is not none. */
    private static void none() {
        Subject x = new Subject();
        x.put(0, 5, 0, 3).is(1);
        x.delete(1, 5, 4).is(2);
        x.delete(0, 5, 4).is(3);
        x.get(0, 5).isUnsupported();
        x.get(1, 5).is(0);
        x.get(2, 5).isUnsupported();
        x.get(3, 5).isUnsupported();
        x.get(1, 4).isUnsupported();
        x.get(1, 6).isUnsupported();
    }

    /** "IllegalArgumentException: table". */
    private static void wrongTable() {
        Subject x = Filled.withKeys(5, 6);
        for (int table : Edges.wrongTables(3)) {
            x.get(table, 5).isIllegalArgument();
        }
        x.get(0, 5).isUnsupported();
        x.get(1, 5).is(5);
        x.get(2, 5).is(5);
    }

    /** "IllegalArgumentException: .. key". */
    private static void wrongKey() {
        Subject x = Filled.withKeys(0, 5, 1023);
        for (int key : Edges.WRONG_KEYS) {
            x.get(3, key).isIllegalArgument();
        }
        x.get(3, 0).is(0);
        x.get(3, 1023).is(1023);
    }
}
