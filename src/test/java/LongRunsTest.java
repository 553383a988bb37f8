import java.util.ArrayList;
import java.util.Arrays;
import java.util.List;
import java.util.Random;

/** Promises 1 to 9 together: long runs of calls, each held against rows that are copied whole. */
final class LongRunsTest {
    private static final int KEYS = 1024;
    private static final int RUNS = 300;
    private static final int CALLS = 512;

    /** A table in its plainest form. */
    private static final class Row {
        final boolean[] has = new boolean[KEYS];
        final long[] number = new long[KEYS];
        final int[] stamp = new int[KEYS];

        Row() {
            Arrays.fill(stamp, -1);
        }

        Row copy() {
            Row other = new Row();
            System.arraycopy(has, 0, other.has, 0, KEYS);
            System.arraycopy(number, 0, other.number, 0, KEYS);
            System.arraycopy(stamp, 0, other.stamp, 0, KEYS);
            return other;
        }

        long part(int low, int high, int what) {
            long count = 0;
            long sum = 0;
            long least = -1;
            long greatest = -1;
            long newest = -1;
            for (int key = low; key <= high; key++) {
                newest = Math.max(newest, stamp[key]);
                if (has[key]) {
                    count++;
                    sum += number[key];
                    least = least < 0 ? key : least;
                    greatest = key;
                }
            }
            return new long[] {count, sum, least, greatest, newest}[what];
        }

        int at(int k) {
            int below = 0;
            for (int key = 0; key < KEYS; key++) {
                if (has[key] && below++ == k) {
                    return key;
                }
            }
            return -1;
        }

        int differ(Row other) {
            int count = 0;
            for (int key = 0; key < KEYS; key++) {
                boolean same = has[key] == other.has[key] && (!has[key] || number[key] == other.number[key]);
                count += same ? 0 : 1;
            }
            return count;
        }
    }

    private final Random random;
    private final int keySpan;
    private final int changesAtFirst;
    private final StampTables x = new StampTables();
    private final List<Row> rows = new ArrayList<>();

    /** Few keys make changes meet one another; all keys make the tables wide; many changes fill it. */
    private LongRunsTest(long seed) {
        random = new Random(seed);
        keySpan = seed % 3 == 0 ? KEYS : 8;
        changesAtFirst = seed % 2 == 0 ? 0 : 380;
        rows.add(new Row());
    }

    public static void main(String[] args) {
        for (int seed = 0; seed < RUNS; seed++) {
            new LongRunsTest(seed).run();
        }
        Check.end();
    }

    private void run() {
        for (int call = 0; call < CALLS; call++) {
            switch (random.nextInt(call < changesAtFirst ? 5 : 10)) {
                case 0, 1, 2, 3 -> put();
                case 4 -> delete();
                case 5 -> get();
                case 6 -> stamp();
                case 7 -> part();
                case 8 -> at();
                default -> differ();
            }
        }
        Check.due("tables()", rows.size(), () -> x.tables());
    }

    private int anyTable() {
        int last = rows.size() - 1;
        return random.nextInt(4) == 0 ? random.nextInt(last + 1) : last;
    }

    /** Few keys lie about the middle, where the tree is halved first. */
    private int anyKey() {
        return keySpan == KEYS ? random.nextInt(KEYS) : KEYS / 2 - keySpan / 2 + random.nextInt(keySpan);
    }

    private int anyStamp() {
        return random.nextInt(2) == 0 ? random.nextInt(20) : random.nextInt(1000000001);
    }

    private long anyNumber() {
        return random.nextInt(2) == 0 ? random.nextInt(3) - 1 : random.nextLong();
    }

    private void put() {
        int table = anyTable();
        int key = anyKey();
        long v = anyNumber();
        int stamp = anyStamp();
        String call = "put(" + table + ", " + key + ", " + v + ", " + stamp + ")";
        if (rows.size() == 400) {
            Check.dueIndexOutOfBounds(call, () -> x.put(table, key, v, stamp));
            return;
        }
        Check.due(call, rows.size(), () -> x.put(table, key, v, stamp));
        write(table, key, true, v, stamp);
    }

    private void delete() {
        int table = anyTable();
        int key = anyKey();
        int stamp = anyStamp();
        String call = "delete(" + table + ", " + key + ", " + stamp + ")";
        if (rows.size() == 400) {
            Check.dueIndexOutOfBounds(call, () -> x.delete(table, key, stamp));
            return;
        }
        Check.due(call, rows.size(), () -> x.delete(table, key, stamp));
        write(table, key, false, 0, stamp);
    }

    private void write(int table, int key, boolean has, long v, int stamp) {
        Row row = rows.get(table).copy();
        row.has[key] = has;
        row.number[key] = v;
        row.stamp[key] = stamp;
        rows.add(row);
    }

    private void get() {
        int table = anyTable();
        int key = anyKey();
        String call = "get(" + table + ", " + key + ")";
        if (rows.get(table).has[key]) {
            Check.due(call, rows.get(table).number[key], () -> x.get(table, key));
        } else {
            Check.dueUnsupported(call, () -> x.get(table, key));
        }
    }

    private void stamp() {
        int table = anyTable();
        int key = anyKey();
        Check.due("stamp(" + table + ", " + key + ")", rows.get(table).stamp[key], () -> x.stamp(table, key));
    }

    private void part() {
        int table = anyTable();
        int one = anyKey();
        int other = random.nextInt(3) == 0 ? random.nextInt(KEYS) : anyKey();
        int low = Math.min(one, other);
        int high = Math.max(one, other);
        for (int i = 0; i < 5; i++) {
            int what = i;
            String call = "part(" + table + ", " + low + ", " + high + ", " + what + ")";
            Check.due(call, rows.get(table).part(low, high, what), () -> x.part(table, low, high, what));
        }
    }

    private void at() {
        int table = anyTable();
        int count = (int) rows.get(table).part(0, KEYS - 1, 0);
        int k = random.nextInt(count + 3) - 1;
        String call = "at(" + table + ", " + k + ")";
        if (k < 0 || k >= count) {
            Check.dueIndexOutOfBounds(call, () -> x.at(table, k));
        } else {
            Check.due(call, rows.get(table).at(k), () -> x.at(table, k));
        }
    }

    private void differ() {
        int a = anyTable();
        int b = random.nextInt(rows.size());
        Check.due("differ(" + a + ", " + b + ")", rows.get(a).differ(rows.get(b)), () -> x.differ(a, b));
    }
}
