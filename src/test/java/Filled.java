/** Objects that several tests begin with. */
final class Filled {
    static final int LIMIT = 400;

    private Filled() {}

    /** All 400 tables: table t has the keys 0 to t - 1, key i with the number 10 * i and the stamp i. */
    static StampTables toTheLimit() {
        StampTables x = new StampTables();
        for (int key = 0; key < LIMIT - 1; key++) {
            x.put(key, key, 10L * key, key);
        }
        return x;
    }

    /** The last table has these keys, each with itself as number and stamp 0. */
    static StampTables withKeys(int... keys) {
        StampTables x = new StampTables();
        for (int key : keys) {
            x.put(x.tables() - 1, key, key, 0);
        }
        return x;
    }
}
