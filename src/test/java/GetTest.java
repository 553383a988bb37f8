/** Promise 4: get tells the number of a key. */
final class GetTest {
    public static void main(String[] args) {
        everyKeyOfEveryTable();
        noNumber();
        wrongArguments();
        Check.end();
    }

    private static void everyKeyOfEveryTable() {
        StampTables x = Filled.toTheLimit();
        for (int t = 0; t < Filled.LIMIT; t += 57) {
            int table = t;
            for (int k = 0; k <= 1023; k++) {
                int key = k;
                String call = "get(" + table + ", " + key + ")";
                if (key < table) {
                    Check.due(call, 10L * key, () -> x.get(table, key));
                } else {
                    Check.dueUnsupported(call, () -> x.get(table, key));
                }
            }
        }
    }

    private static void noNumber() {
        StampTables x = new StampTables();
        x.put(0, 5, 0, 3);
        x.delete(1, 5, 4);
        Check.due("get(1, 5), the number 0", 0, () -> x.get(1, 5));
        Check.dueUnsupported("get(0, 5), never written", () -> x.get(0, 5));
        Check.dueUnsupported("get(2, 5), deleted", () -> x.get(2, 5));
        Check.dueUnsupported("get(2, 4), beside it", () -> x.get(2, 4));
    }

    private static void wrongArguments() {
        StampTables x = Filled.withKeys(5);
        Check.dueIllegalArgument("get(-1, 5)", () -> x.get(-1, 5));
        Check.dueIllegalArgument("get(2, 5)", () -> x.get(2, 5));
        Check.dueIllegalArgument("get(400, 5)", () -> x.get(400, 5));
        Check.dueIllegalArgument("get(1, -1)", () -> x.get(1, -1));
        Check.dueIllegalArgument("get(1, 1024)", () -> x.get(1, 1024));
        Check.dueIllegalArgument("get(1, 1029), 5 behind the end", () -> x.get(1, 1029));
    }
}
