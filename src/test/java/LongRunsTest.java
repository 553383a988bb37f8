import java.util.Random;

/** Promises 1 to 9 together: runs of 512 calls, right and wrong ones, held against the plain form. */
final class LongRunsTest {
    private static final int KEYS = 1024;
    private static final int RUNS = 400;

    private final Random random;
    private final int keySpan;
    private final int changesAtFirst;
    private final Subject x = new Subject();
    private final PlainTables plain = new PlainTables();

    /** Few keys make changes meet one another; all keys make the tables wide; many changes fill it. */
    private LongRunsTest(long seed) {
        random = new Random(seed);
        keySpan = seed % 3 == 0 ? KEYS : 8;
        changesAtFirst = seed % 2 == 0 ? 0 : 420;
    }

    public static void main(String[] args) {
        for (int seed = 0; seed < RUNS; seed++) {
            new LongRunsTest(seed).run();
        }
        Check.end();
    }

    private void run() {
        for (int call = 1; call < Subject.MOST_CALLS; call++) {
            tryOne(random.nextInt(call < changesAtFirst ? 5 : 10));
        }
        x.tables().isAsThatOf(() -> plain.tables());
    }

    private void tryOne(int kind) {
        switch (kind) {
            case 0, 1, 2, 3 -> put(anyTable(), anyKey(), anyNumber(), anyStamp());
            case 4 -> delete(anyTable(), anyKey(), anyStamp());
            case 5 -> get(anyTable(), anyKey());
            case 6 -> stamp(anyTable(), anyKey());
            case 7 -> part(anyTable(), anyKey(), anyKey(), random.nextInt(5));
            case 8 -> at(anyTable(), random.nextInt(keySpan == KEYS ? 300 : 10) - 1);
            default -> differ(anyTable(), anyTable());
        }
    }

    private boolean oneIn(int many) {
        return random.nextInt(many) == 0;
    }

    private int oneOf(int[] row) {
        return row[random.nextInt(row.length)];
    }

    private int anyTable() {
        if (oneIn(40)) {
            return oneOf(Edges.wrongTables(plain.tables()));
        }
        return oneIn(4) ? random.nextInt(plain.tables()) : plain.tables() - 1;
    }

    /** Few keys lie about the middle, where the tree is halved first. */
    private int anyKey() {
        if (oneIn(40)) {
            return oneOf(oneIn(2) ? Edges.WRONG_KEYS : Edges.KEYS);
        }
        return (KEYS - keySpan) / 2 + random.nextInt(keySpan);
    }

    private int anyStamp() {
        if (oneIn(40)) {
            return oneOf(oneIn(2) ? Edges.WRONG_STAMPS : Edges.STAMPS);
        }
        return oneIn(2) ? random.nextInt(20) : random.nextInt(1000000001);
    }

    private long anyNumber() {
        return oneIn(2) ? random.nextInt(3) - 1 : random.nextLong();
    }

    private void put(int table, int key, long v, int stamp) {
        x.put(table, key, v, stamp).isAsThatOf(() -> plain.put(table, key, v, stamp));
    }

    private void delete(int table, int key, int stamp) {
        x.delete(table, key, stamp).isAsThatOf(() -> plain.delete(table, key, stamp));
    }

    private void get(int table, int key) {
        x.get(table, key).isAsThatOf(() -> plain.get(table, key));
    }

    private void stamp(int table, int key) {
        x.stamp(table, key).isAsThatOf(() -> plain.stamp(table, key));
    }

    /** Mostly with the lower end first: the other order is refused whatever stands in the table. */
    private void part(int table, int one, int other, int what) {
        int low = oneIn(20) ? one : Math.min(one, other);
        int high = low == one ? other : one;
        x.part(table, low, high, what).isAsThatOf(() -> plain.part(table, low, high, what));
    }

    private void at(int table, int k) {
        x.at(table, k).isAsThatOf(() -> plain.at(table, k));
    }

    private void differ(int a, int b) {
        x.differ(a, b).isAsThatOf(() -> plain.differ(a, b));
    }
}
