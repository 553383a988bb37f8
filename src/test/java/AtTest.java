/** Promise 7: at tells the key that has a number and k keys with numbers below it. */
final class AtTest {
    public static void main(String[] args) {
        keysInTheirOrder();
        allKeysOfAFullRow();
        deletedKeysDoNotCount();
        thereIsNone();
        wrongTable();
        Check.end();
    }

    private static void keysInTheirOrder() {
        int[] keys = {0, 1, 511, 512, 513, 1000, 1023};
        StampTables x = Filled.withKeys(1000, 512, 0, 1023, 511, 513, 1);
        for (int i = 0; i < keys.length; i++) {
            int k = i;
            Check.due("at(7, " + k + ")", keys[k], () -> x.at(7, k));
        }
        Check.due("at(1, 0)", 1000, () -> x.at(1, 0));
        Check.due("at(2, 1)", 1000, () -> x.at(2, 1));
    }

    private static void allKeysOfAFullRow() {
        StampTables x = Filled.toTheLimit();
        for (int i = 0; i < 399; i++) {
            int k = i;
            Check.due("at(399, " + k + ")", k, () -> x.at(399, k));
        }
        Check.dueIndexOutOfBounds("at(399, 399)", () -> x.at(399, 399));
    }

    private static void deletedKeysDoNotCount() {
        StampTables x = Filled.withKeys(4, 5, 6);
        x.delete(3, 5, 1);
        x.delete(4, 0, 1);
        Check.due("at(5, 0)", 4, () -> x.at(5, 0));
        Check.due("at(5, 1)", 6, () -> x.at(5, 1));
        Check.dueIndexOutOfBounds("at(5, 2)", () -> x.at(5, 2));
        Check.due("at(3, 1)", 5, () -> x.at(3, 1));
    }

    private static void thereIsNone() {
        StampTables x = Filled.withKeys(4);
        Check.dueIndexOutOfBounds("at(0, 0)", () -> x.at(0, 0));
        Check.dueIndexOutOfBounds("at(1, 1)", () -> x.at(1, 1));
        Check.dueIndexOutOfBounds("at(1, -1)", () -> x.at(1, -1));
        Check.dueIndexOutOfBounds("at(1, MIN)", () -> x.at(1, Integer.MIN_VALUE));
        Check.dueIndexOutOfBounds("at(1, MAX)", () -> x.at(1, Integer.MAX_VALUE));
    }

    private static void wrongTable() {
        StampTables x = Filled.withKeys(4);
        Check.dueIllegalArgument("at(-1, 0)", () -> x.at(-1, 0));
        Check.dueIllegalArgument("at(2, 0)", () -> x.at(2, 0));
        Check.dueIllegalArgument("at(2, -1), the table is named first", () -> x.at(2, -1));
    }
}
