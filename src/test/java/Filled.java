/** Objects that several tests begin with. */
final class Filled {
    static final int LIMIT = 400;

    /** A look at one key of one table. */
    interface Look {
        void at(Subject x, int table, int key);
    }

    private Filled() {}

    /** All 400 tables: table t has the keys 0 to t - 1, key i with the number 10 * i and the stamp i. */
    static Subject toTheLimit() {
        return upTo(LIMIT);
    }

    /** So many tables, made as those above. */
    static Subject upTo(int tables) {
        Subject x = new Subject();
        for (int key = 0; key < tables - 1; key++) {
            x.put(key, key, 10L * key, key);
        }
        return x;
    }

    /** The last table has these keys, each with itself as number and stamp 0. */
    static Subject withKeys(int... keys) {
        Subject x = new Subject();
        for (int i = 0; i < keys.length; i++) {
            x.put(i, keys[i], keys[i], 0);
        }
        return x;
    }

    /** Looks at every key of some tables of a full object, and at a new one when its calls are used up. */
    static void lookAtEveryKey(Look look) {
        Subject x = toTheLimit();
        for (int table = 0; table < LIMIT; table += 57) {
            for (int key = 0; key <= 1023; key++) {
                x = x.callsLeft() == 0 ? toTheLimit() : x;
                look.at(x, table, key);
            }
        }
    }
}
