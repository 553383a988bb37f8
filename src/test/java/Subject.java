import java.util.Arrays;

/** An object under test: makes each call once, and tells it in words with what came of it. */
final class Subject {
    /** Of later calls the document promises nothing, so no test may rest on one. */
    static final int MOST_CALLS = 512;

    private final StampTables tables = new StampTables();
    private int calls = 0;

    int callsLeft() {
        return MOST_CALLS - calls;
    }

    Outcome put(int table, int key, long v, int stamp) {
        return tried(() -> tables.put(table, key, v, stamp), "put", table, key, v, stamp);
    }

    Outcome delete(int table, int key, int stamp) {
        return tried(() -> tables.delete(table, key, stamp), "delete", table, key, stamp);
    }

    Outcome get(int table, int key) {
        return tried(() -> tables.get(table, key), "get", table, key);
    }

    Outcome stamp(int table, int key) {
        return tried(() -> tables.stamp(table, key), "stamp", table, key);
    }

    Outcome part(int table, int low, int high, int what) {
        return tried(() -> tables.part(table, low, high, what), "part", table, low, high, what);
    }

    Outcome at(int table, int k) {
        return tried(() -> tables.at(table, k), "at", table, k);
    }

    Outcome differ(int a, int b) {
        return tried(() -> tables.differ(a, b), "differ", a, b);
    }

    Outcome tables() {
        return tried(() -> tables.tables(), "tables");
    }

    private Outcome tried(Outcome.Call call, String name, long... arguments) {
        if (callsLeft() == 0) {
            throw new IllegalStateException("this test makes more calls than the document promises");
        }
        calls++;
        return Outcome.of("call " + calls + ", " + name + Arrays.toString(arguments), call);
    }
}
