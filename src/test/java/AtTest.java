/** Promise 7: at. */
final class AtTest {
    public static void main(String[] args) {
        keysInTheirOrder();
        asManyKeysAsThereCanBe();
        andANumberItself();
        kBelowZero();
        thereIsNone();
        wrongTable();
        Check.end();
    }

    /** "The KEY that has k KEYS with numbers below it". */
    private static void keysInTheirOrder() {
        int[] keys = {0, 1, 511, 512, 513, 1000, 1023};
        Subject x = Filled.withKeys(1000, 512, 0, 1023, 511, 513, 1);
        for (int k = 0; k < keys.length; k++) {
            x.at(7, k).is(keys[k]);
        }
        x.at(7, keys.length).isIndexOutOfBounds();
        x.at(1, 0).is(1000);
        x.at(2, 0).is(512);
        x.at(2, 1).is(1000);
    }

    private static void asManyKeysAsThereCanBe() {
        Subject x = Filled.toTheLimit();
        for (int k = 0; k <= 398; k += 5) {
            x.at(399, k).is(k);
        }
        x.at(399, 398).is(398);
        x.at(399, 399).isIndexOutOfBounds();
        x.at(398, 397).is(397);
        x.at(398, 398).isIndexOutOfBounds();
    }

    /** "and a number itself": deleted keys are neither told nor counted. */
    private static void andANumberItself() {
        Subject x = Filled.withKeys(4, 5, 6);
        x.delete(3, 5, 1).is(4);
        x.delete(4, 0, 1).is(5);
        x.at(3, 1).is(5);
        x.at(5, 0).is(4);
        x.at(5, 1).is(6);
        x.at(5, 2).isIndexOutOfBounds();
        x.delete(5, 4, 1).is(6);
        x.at(6, 0).is(6);
        x.at(6, 1).isIndexOutOfBounds();
        x.put(6, 5, 0, 1).is(7);
        x.at(7, 0).is(5);
    }

    /** "(k below 0: there is none.)" */
    private static void kBelowZero() {
        Subject x = Filled.withKeys(0, 1023);
        for (int k : Edges.BELOW_ZERO) {
            x.at(0, k).isIndexOutOfBounds();
            x.at(2, k).isIndexOutOfBounds();
        }
        x.at(2, 0).is(0);
    }

    /** "IndexOutOfBoundsException: there is none." The last k that there is, and the next one. */
    private static void thereIsNone() {
        Subject x = Filled.withKeys(1023, 0);
        x.at(0, 0).isIndexOutOfBounds();
        x.at(1, 0).is(1023);
        x.at(1, 1).isIndexOutOfBounds();
        x.at(2, 1).is(1023);
        x.at(2, 2).isIndexOutOfBounds();
        x.at(2, 1023).isIndexOutOfBounds();
        x.at(2, 1024).isIndexOutOfBounds();
        x.at(2, Integer.MAX_VALUE).isIndexOutOfBounds();
        x.delete(1, 1023, 0).is(3);
        x.at(3, 0).isIndexOutOfBounds();
    }

    /** "IllegalArgumentException: table." */
    private static void wrongTable() {
        Subject x = Filled.withKeys(5, 6);
        for (int table : Edges.wrongTables(3)) {
            x.at(table, 0).isIllegalArgument();
        }
        x.at(0, 0).isIndexOutOfBounds();
        x.at(2, 0).is(5);
    }
}
