/** Arguments at the edges of what the document takes, and those just beyond and far beyond them. */
final class Edges {
    static final int[] KEYS = {0, 1, 511, 512, 1022, 1023};

    /** -1019 and 1029 are 5 where only the lowest bits of a key are looked at. */
    static final int[] WRONG_KEYS = {-1, 1024, -1019, 1029, Integer.MIN_VALUE, Integer.MAX_VALUE};

    static final int[] STAMPS = {0, 1, 999999999, 1000000000};
    static final int[] WRONG_STAMPS = {-1, 1000000001, Integer.MIN_VALUE, Integer.MAX_VALUE};
    static final int[] WRONG_WHATS = {-1, 5, Integer.MIN_VALUE, Integer.MAX_VALUE};
    static final int[] BELOW_ZERO = {-1, -2, Integer.MIN_VALUE};

    private Edges() {}

    /** Wrong where there are so many tables. */
    static int[] wrongTables(int tables) {
        return new int[] {-1, tables, tables + 1, 400, Integer.MIN_VALUE, Integer.MAX_VALUE};
    }
}
