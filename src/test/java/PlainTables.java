import java.util.ArrayList;
import java.util.Arrays;
import java.util.List;

/** What the document says in its plainest form: each table is a row of all keys, copied whole. */
final class PlainTables {
    private static final int KEYS = 1024;

    private static final class Row {
        final boolean[] has;
        final long[] number;
        final int[] stamp;

        Row() {
            has = new boolean[KEYS];
            number = new long[KEYS];
            stamp = new int[KEYS];
            Arrays.fill(stamp, -1);
        }

        Row(Row elder) {
            has = elder.has.clone();
            number = elder.number.clone();
            stamp = elder.stamp.clone();
        }
    }

    private final List<Row> rows = new ArrayList<>();

    PlainTables() {
        rows.add(new Row());
    }

    int put(int table, int key, long v, int stamp) {
        return change(table, key, true, v, stamp);
    }

    int delete(int table, int key, int stamp) {
        return change(table, key, false, 0, stamp);
    }

    long get(int table, int key) {
        Row row = row(table);
        if (!row.has[checked(key, 0, 1023)]) {
            throw new UnsupportedOperationException();
        }
        return row.number[key];
    }

    int stamp(int table, int key) {
        return row(table).stamp[checked(key, 0, 1023)];
    }

    long part(int table, int low, int high, int what) {
        Row row = row(table);
        checked(low, 0, 1023);
        checked(high, low, 1023);
        checked(what, 0, 4);
        long[] taken = {0, 0, -1, -1, -1};
        for (int key = low; key <= high; key++) {
            if (row.has[key]) {
                taken[0]++;
                taken[1] += row.number[key];
                taken[2] = taken[2] < 0 ? key : taken[2];
                taken[3] = key;
            }
            taken[4] = Math.max(taken[4], row.stamp[key]);
        }
        return taken[what];
    }

    int at(int table, int k) {
        Row row = row(table);
        int below = 0;
        for (int key = 0; key < KEYS; key++) {
            if (row.has[key] && below++ == k) {
                return key;
            }
        }
        throw new IndexOutOfBoundsException();
    }

    int differ(int a, int b) {
        Row one = row(a);
        Row other = row(b);
        int count = 0;
        for (int key = 0; key < KEYS; key++) {
            boolean bothNone = !one.has[key] && !other.has[key];
            boolean sameNumber = one.has[key] && other.has[key] && one.number[key] == other.number[key];
            count += bothNone || sameNumber ? 0 : 1;
        }
        return count;
    }

    int tables() {
        return rows.size();
    }

    private int change(int table, int key, boolean has, long v, int stamp) {
        Row row = new Row(row(table));
        checked(key, 0, 1023);
        checked(stamp, 0, 1000000000);
        if (rows.size() == 400) {
            throw new IndexOutOfBoundsException();
        }
        row.has[key] = has;
        row.number[key] = v;
        row.stamp[key] = stamp;
        rows.add(row);
        return rows.size() - 1;
    }

    private Row row(int table) {
        return rows.get(checked(table, 0, rows.size() - 1));
    }

    private static int checked(int argument, int lowest, int highest) {
        if (argument < lowest || argument > highest) {
            throw new IllegalArgumentException();
        }
        return argument;
    }
}
