/** Promise 3: delete. */
final class DeleteTest {
    public static void main(String[] args) {
        asTheElderOneButForTheKey();
        alsoIfItHadNoneBefore();
        numberComesBack();
        anyStampIsTaken();
        wrongTable();
        wrongKey();
        wrongStamp();
        thereAre400();
        Check.end();
    }

    /** "Likewise: the KEY has none". The new table is as the elder one else, and that one stays. */
    private static void asTheElderOneButForTheKey() {
        Subject x = Filled.withKeys(0, 511, 512, 1023);
        x.delete(4, 511, 9).is(5);
        x.get(5, 511).isUnsupported();
        x.stamp(5, 511).is(9);
        x.get(5, 0).is(0);
        x.get(5, 512).is(512);
        x.stamp(5, 512).is(0);
        x.get(5, 1023).is(1023);
        x.stamp(5, 510).is(-1);
        x.part(5, 0, 1023, 0).is(3);
        x.differ(4, 5).is(1);
        x.get(4, 511).is(511);
        x.stamp(4, 511).is(0);
        x.part(4, 0, 1023, 0).is(4);
    }

    /** "(also if it had none before)": never written, and deleted already; always a new table. */
    private static void alsoIfItHadNoneBefore() {
        Subject x = new Subject();
        x.delete(0, 1023, 9).is(1);
        x.delete(1, 1023, 8).is(2);
        x.delete(2, 1023, 8).is(3);
        x.tables().is(4);
        x.stamp(0, 1023).is(-1);
        x.stamp(1, 1023).is(9);
        x.stamp(2, 1023).is(8);
        x.stamp(3, 1023).is(8);
        for (int table = 0; table <= 3; table++) {
            x.get(table, 1023).isUnsupported();
            x.part(table, 0, 1023, 0).is(0);
            x.at(table, 0).isIndexOutOfBounds();
        }
    }

    private static void numberComesBack() {
        Subject x = new Subject();
        x.put(0, 5, 7, 3).is(1);
        x.delete(1, 5, 4).is(2);
        x.put(2, 5, 9, 1).is(3);
        x.get(2, 5).isUnsupported();
        x.get(3, 5).is(9);
        x.stamp(3, 5).is(1);
    }

    /** "Likewise", so "any STAMP is taken, also one below that of before": below, the same, above. */
    private static void anyStampIsTaken() {
        int[] stamps = {50, 49, 49, 50, 1000000000, 999999999, 0, 0, 1};
        Subject x = Filled.withKeys(5);
        for (int i = 0; i < stamps.length; i++) {
            x.delete(i + 1, 5, stamps[i]).is(i + 2);
            x.stamp(i + 2, 5).is(stamps[i]);
            x.part(i + 2, 0, 1023, 4).is(stamps[i]);
        }
    }

    /** "Likewise", so "IllegalArgumentException: table". */
    private static void wrongTable() {
        Subject x = Filled.withKeys(5);
        for (int table : Edges.wrongTables(2)) {
            x.delete(table, 5, 0).isIllegalArgument();
        }
        x.delete(0, 5, 0).is(2);
        x.delete(2, 5, 0).is(3);
    }

    /** "Likewise", so "IllegalArgumentException: .. key". */
    private static void wrongKey() {
        Subject x = new Subject();
        for (int key : Edges.WRONG_KEYS) {
            x.delete(0, key, 0).isIllegalArgument();
        }
        x.delete(0, 0, 0).is(1);
        x.delete(0, 1023, 0).is(2);
    }

    /** "Likewise", so "IllegalArgumentException: .. stamp". */
    private static void wrongStamp() {
        Subject x = new Subject();
        for (int stamp : Edges.WRONG_STAMPS) {
            x.delete(0, 0, stamp).isIllegalArgument();
        }
        x.delete(0, 0, 0).is(1);
        x.delete(0, 0, 1000000000).is(2);
    }

    /** "Likewise", so "IndexOutOfBoundsException: there are 400." Also where it would change nothing. */
    private static void thereAre400() {
        Subject x = Filled.upTo(399);
        x.delete(398, 0, 3).is(399);
        x.delete(399, 1, 3).isIndexOutOfBounds();
        x.delete(399, 0, 3).isIndexOutOfBounds();
        x.delete(0, 0, 3).isIndexOutOfBounds();
        x.tables().is(400);
        x.get(399, 0).isUnsupported();
        x.get(399, 1).is(10);
        x.stamp(0, 0).is(-1);
    }
}
