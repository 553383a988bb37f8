/** Promise 2: put. */
final class PutTest {
    public static void main(String[] args) {
        asTheElderOneButForTheKey();
        elderTablesStay();
        answersItsOwnNumber();
        alwaysANewOne();
        anyStampIsTaken();
        wrongTable();
        wrongKey();
        wrongStamp();
        thereAre400();
        Check.end();
    }

    /** "A new TABLE, as an elder one, but that a KEY has a number". */
    private static void asTheElderOneButForTheKey() {
        Subject x = Filled.withKeys(0, 511, 512, 1023);
        x.delete(4, 1023, 9).is(5);
        x.put(5, 511, -8, 3).is(6);
        x.get(6, 0).is(0);
        x.get(6, 511).is(-8);
        x.stamp(6, 511).is(3);
        x.get(6, 512).is(512);
        x.stamp(6, 512).is(0);
        x.get(6, 1023).isUnsupported();
        x.stamp(6, 1023).is(9);
        x.stamp(6, 510).is(-1);
        x.differ(5, 6).is(1);
    }

    private static void elderTablesStay() {
        Subject x = new Subject();
        x.put(0, 5, 7, 3).is(1);
        x.put(1, 5, 8, 2).is(2);
        x.put(1, 6, 9, 1).is(3);
        x.get(0, 5).isUnsupported();
        x.stamp(0, 5).is(-1);
        x.get(1, 5).is(7);
        x.stamp(1, 5).is(3);
        x.part(1, 0, 1023, 0).is(1);
        x.get(2, 5).is(8);
        x.get(2, 6).isUnsupported();
        x.get(3, 5).is(7);
        x.get(3, 6).is(9);
    }

    /** "its own number": that of the new table, whichever one it was made from. */
    private static void answersItsOwnNumber() {
        Subject x = new Subject();
        for (int table = 1; table <= 20; table++) {
            x.put((table - 1) / 2, table, 7, 3).is(table);
            x.get(table, table).is(7);
        }
    }

    /** "Always a new one": also where nothing becomes another. */
    private static void alwaysANewOne() {
        Subject x = new Subject();
        x.put(0, 5, 7, 3).is(1);
        x.put(1, 5, 7, 3).is(2);
        x.put(0, 5, 7, 3).is(3);
        x.tables().is(4);
        x.put(2, 5, 8, 3).is(4);
        x.get(2, 5).is(7);
        x.get(4, 5).is(8);
    }

    /** "any STAMP is taken, also one below that of before": below, the same, above. */
    private static void anyStampIsTaken() {
        int[] stamps = {50, 49, 49, 50, 1000000000, 999999999, 0, 0, 1};
        Subject x = new Subject();
        for (int i = 0; i < stamps.length; i++) {
            x.put(i, 5, i, stamps[i]).is(i + 1);
            x.stamp(i + 1, 5).is(stamps[i]);
            x.get(i + 1, 5).is(i);
            x.part(i + 1, 0, 1023, 4).is(stamps[i]);
        }
    }

    /** "IllegalArgumentException: table". */
    private static void wrongTable() {
        Subject x = Filled.withKeys(5);
        for (int table : Edges.wrongTables(2)) {
            x.put(table, 5, 0, 0).isIllegalArgument();
        }
        x.put(0, 5, 0, 0).is(2);
        x.put(2, 5, 0, 0).is(3);
    }

    /** "IllegalArgumentException: .. key". */
    private static void wrongKey() {
        Subject x = new Subject();
        for (int key : Edges.WRONG_KEYS) {
            x.put(0, key, 0, 0).isIllegalArgument();
        }
        x.put(0, 0, 0, 0).is(1);
        x.put(0, 1023, 0, 0).is(2);
    }

    /** "IllegalArgumentException: .. stamp". */
    private static void wrongStamp() {
        Subject x = new Subject();
        for (int stamp : Edges.WRONG_STAMPS) {
            x.put(0, 0, 0, stamp).isIllegalArgument();
        }
        x.put(0, 0, 0, 0).is(1);
        x.put(0, 0, 0, 1000000000).is(2);
    }

    /** "IndexOutOfBoundsException: there are 400." */
    private static void thereAre400() {
        Subject x = Filled.upTo(399);
        x.put(398, 1023, 7, 3).is(399);
        x.put(399, 1023, 8, 3).isIndexOutOfBounds();
        x.put(0, 0, 8, 3).isIndexOutOfBounds();
        x.tables().is(400);
        x.get(399, 1023).is(7);
        x.get(0, 0).isUnsupported();
    }
}
