/** Promise 8: differ. */
final class DifferTest {
    public static void main(String[] args) {
        anotherNumber();
        everyBitMakesAnotherNumber();
        aNumberInJustOneOfThem();
        numberZeroIsNotNone();
        howManyKeys();
        stampsDoNotMatter();
        wrongTable();
        Check.end();
    }

    private static void dueDiffer(Subject x, int a, int b, long want) {
        x.differ(a, b).is(want);
        x.differ(b, a).is(want);
    }

    /** "KEYS have in one TABLE another number than in the other one"; written anew is not another. */
    private static void anotherNumber() {
        for (int key : Edges.KEYS) {
            Subject x = new Subject();
            x.put(0, key, 7, 3).is(1);
            x.put(1, key, 8, 3).is(2);
            x.put(2, key, 7, 3).is(3);
            x.put(0, key, 7, 3).is(4);
            dueDiffer(x, 1, 2, 1);
            dueDiffer(x, 1, 3, 0);
            dueDiffer(x, 1, 4, 0);
            dueDiffer(x, 2, 4, 1);
            dueDiffer(x, 2, 2, 0);
        }
    }

    private static void everyBitMakesAnotherNumber() {
        Subject x = new Subject();
        x.put(0, 5, 1000000007, 3).is(1);
        for (int bit = 0; bit < 64; bit++) {
            x.put(1, 5, 1000000007 ^ (1L << bit), 3).is(bit + 2);
            x.differ(1, bit + 2).is(1);
        }
    }

    /** "or a number in just one of them": never written or deleted in the other one. */
    private static void aNumberInJustOneOfThem() {
        for (int key : Edges.KEYS) {
            Subject x = new Subject();
            x.put(0, key, 7, 3).is(1);
            x.delete(1, key, 3).is(2);
            x.put(0, key ^ 1, 7, 3).is(3);
            dueDiffer(x, 0, 1, 1);
            dueDiffer(x, 1, 2, 1);
            dueDiffer(x, 0, 2, 0);
            dueDiffer(x, 1, 3, 2);
            dueDiffer(x, 2, 3, 1);
        }
    }

    private static void numberZeroIsNotNone() {
        Subject x = new Subject();
        x.put(0, 5, 0, 3).is(1);
        x.delete(1, 5, 3).is(2);
        dueDiffer(x, 0, 1, 1);
        dueDiffer(x, 1, 2, 1);
        dueDiffer(x, 0, 2, 0);
    }

    /** "How many KEYS": none, and all that there can be; two with the same sum; two branches. */
    private static void howManyKeys() {
        Subject x = Filled.toTheLimit();
        dueDiffer(x, 0, 0, 0);
        dueDiffer(x, 399, 399, 0);
        dueDiffer(x, 0, 399, 399);
        dueDiffer(x, 1, 399, 398);
        dueDiffer(x, 398, 399, 1);
        Subject y = new Subject();
        y.put(0, 5, 1, 0).is(1);
        y.put(1, 6, 2, 0).is(2);
        y.put(0, 5, 2, 0).is(3);
        y.put(3, 6, 1, 0).is(4);
        y.put(4, 1023, 1, 0).is(5);
        dueDiffer(y, 2, 4, 2);
        dueDiffer(y, 2, 5, 3);
    }

    /** "(STAMPS do not matter.)": of numbers, of none, and of one that was never written. */
    private static void stampsDoNotMatter() {
        Subject x = new Subject();
        x.put(0, 5, 7, 3).is(1);
        x.put(0, 5, 7, 4).is(2);
        x.delete(0, 6, 9).is(3);
        x.delete(0, 6, 8).is(4);
        x.delete(1, 5, 9).is(5);
        dueDiffer(x, 1, 2, 0);
        dueDiffer(x, 0, 3, 0);
        dueDiffer(x, 3, 4, 0);
        dueDiffer(x, 4, 5, 0);
        dueDiffer(x, 0, 5, 0);
        dueDiffer(x, 2, 5, 1);
    }

    /** "IllegalArgumentException: there are none." The first, the second, or both. */
    private static void wrongTable() {
        Subject x = Filled.withKeys(5, 6);
        for (int table : Edges.wrongTables(3)) {
            x.differ(table, 0).isIllegalArgument();
            x.differ(0, table).isIllegalArgument();
            x.differ(table, 2).isIllegalArgument();
            x.differ(2, table).isIllegalArgument();
            x.differ(table, table).isIllegalArgument();
        }
        dueDiffer(x, 0, 2, 2);
        dueDiffer(x, 2, 2, 0);
        Subject y = Filled.toTheLimit();
        y.differ(399, 400).isIllegalArgument();
        y.differ(400, 399).isIllegalArgument();
    }
}
