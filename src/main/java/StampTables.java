/**
 * Tables of keys that are never changed: each change makes a new table, the elder ones stay.
 *
 * <p>A table is a binary tree over all keys. A change makes anew only the blocks on the way to its
 * key and shares all others with the elder table, so that 400 tables stay small and any part of any
 * of them is told from few blocks.
 */
public final class StampTables {
    private static final int TABLE_LIMIT = 400;
    private static final int HIGHEST_KEY = 1023;
    private static final int HIGHEST_STAMP = 1000000000;

    /** The level of a block is how often it can be halved; the block of all 1024 keys has this one. */
    private static final int ROOT_LEVEL = 10;

    private static final int COUNT = 0;
    private static final int SUM = 1;
    private static final int LEAST_KEY = 2;
    private static final int GREATEST_KEY = 3;
    private static final int GREATEST_STAMP = 4;
    private static final int HIGHEST_WHAT = GREATEST_STAMP;

    private static final int NONE = -1;

    /** The block of all keys for each table; null for a table none of whose keys was ever written. */
    private final Block[] roots;
    private int made;

    public StampTables() {
        roots = new Block[TABLE_LIMIT];
        made = 1;
    }

    public int put(int table, int key, long v, int stamp)
            throws IllegalArgumentException, IndexOutOfBoundsException {
        checkChange(table, key, stamp);
        return addTable(table, key, leafWithNumber(key, v, stamp));
    }

    public int delete(int table, int key, int stamp)
            throws IllegalArgumentException, IndexOutOfBoundsException {
        checkChange(table, key, stamp);
        return addTable(table, key, leafWithoutNumber(stamp));
    }

    public long get(int table, int key)
            throws IllegalArgumentException, UnsupportedOperationException {
        checkTable(table);
        checkKey(key);
        Block leaf = leafOf(roots[table], key);
        if (takenOf(leaf, COUNT) == 0) {
            throw new UnsupportedOperationException("the key has no number");
        }
        return takenOf(leaf, SUM);
    }

    public int stamp(int table, int key) throws IllegalArgumentException {
        checkTable(table);
        checkKey(key);
        return (int) takenOf(leafOf(roots[table], key), GREATEST_STAMP);
    }

    public long part(int table, int low, int high, int what) throws IllegalArgumentException {
        checkTable(table);
        checkKey(low);
        checkKey(high);
        if (low > high) {
            throw new IllegalArgumentException("low is above high");
        }
        if (what < COUNT || what > HIGHEST_WHAT) {
            throw new IllegalArgumentException("no such what");
        }
        return takenWithin(roots[table], ROOT_LEVEL, 0, low, high, what);
    }

    public int at(int table, int k) throws IllegalArgumentException, IndexOutOfBoundsException {
        checkTable(table);
        Block root = roots[table];
        if (k < 0 || k >= takenOf(root, COUNT)) {
            throw new IndexOutOfBoundsException("no key has so many keys with numbers below it");
        }
        return keyBehind(root, k);
    }

    public int differ(int a, int b) throws IllegalArgumentException {
        checkTable(a);
        checkTable(b);
        return differences(roots[a], roots[b], ROOT_LEVEL);
    }

    public int tables() {
        return made;
    }

    private void checkTable(int table) {
        if (table < 0 || table >= made) {
            throw new IllegalArgumentException("no such table");
        }
    }

    private static void checkKey(int key) {
        if (key < 0 || key > HIGHEST_KEY) {
            throw new IllegalArgumentException("no such key");
        }
    }

    /** The full room is looked at last: the document names its exception behind the other one. */
    private void checkChange(int table, int key, int stamp) {
        checkTable(table);
        checkKey(key);
        if (stamp < 0 || stamp > HIGHEST_STAMP) {
            throw new IllegalArgumentException("no such stamp");
        }
        if (made >= TABLE_LIMIT) {
            throw new IndexOutOfBoundsException("there are 400 tables");
        }
    }

    private int addTable(int elder, int key, Block leaf) {
        int table = made;
        roots[table] = rewritten(roots[elder], ROOT_LEVEL, key, leaf);
        made++;
        return table;
    }

    /** The elder block may be in use by other tables, so a new one is made in its place. */
    private static Block rewritten(Block elder, int level, int key, Block leaf) {
        if (level <= 0) {
            return leaf;
        }
        Block lower = lowerOf(elder);
        Block upper = upperOf(elder);
        if (isInUpperHalf(key, level)) {
            upper = rewritten(upper, level - 1, key, leaf);
        } else {
            lower = rewritten(lower, level - 1, key, leaf);
        }
        return joined(lower, upper);
    }

    private static Block leafOf(Block root, int key) {
        Block block = root;
        for (int level = ROOT_LEVEL; level > 0; level--) {
            block = isInUpperHalf(key, level) ? upperOf(block) : lowerOf(block);
        }
        return block;
    }

    /** Of a block that lies whole inside the part the answer is at hand: only its edges are halved. */
    private static long takenWithin(
            Block block, int level, int first, int low, int high, int what) {
        int last = first + (1 << level) - 1;
        if (block == null || last < low || first > high) {
            return takenOfNothing(what);
        }
        if (level <= 0 || (low <= first && last <= high)) {
            return takenOf(block, what);
        }
        int middle = first + (1 << (level - 1));
        long ofLower = takenWithin(block.lower, level - 1, first, low, high, what);
        long ofUpper = takenWithin(block.upper, level - 1, middle, low, high, what);
        return takenTogether(ofLower, ofUpper, what);
    }

    private static int keyBehind(Block root, int keysBelow) {
        Block block = root;
        long below = keysBelow;
        for (int level = ROOT_LEVEL; level > 0; level--) {
            long inLower = takenOf(lowerOf(block), COUNT);
            if (below < inLower) {
                block = lowerOf(block);
            } else {
                below -= inLower;
                block = upperOf(block);
            }
        }
        return (int) takenOf(block, LEAST_KEY);
    }

    private static int differences(Block a, Block b, int level) {
        // A block that both tables share cannot differ: this spares the walk through all keys.
        if (a == b) {
            return 0;
        }
        if (level <= 0) {
            return haveSameNumber(a, b) ? 0 : 1;
        }
        return differences(lowerOf(a), lowerOf(b), level - 1)
                + differences(upperOf(a), upperOf(b), level - 1);
    }

    /** The count tells a key that has the number 0 from one that has none. */
    private static boolean haveSameNumber(Block leafA, Block leafB) {
        return takenOf(leafA, COUNT) == takenOf(leafB, COUNT)
                && takenOf(leafA, SUM) == takenOf(leafB, SUM);
    }

    private static boolean isInUpperHalf(int key, int level) {
        return ((key >> (level - 1)) & 1) == 1;
    }

    private static Block leafWithNumber(int key, long v, int stamp) {
        long[] taken = {1, v, key, key, stamp};
        return new Block(null, null, taken);
    }

    /** A deleted key still needs a leaf: its stamp counts. */
    private static Block leafWithoutNumber(int stamp) {
        long[] taken = {0, 0, NONE, NONE, stamp};
        return new Block(null, null, taken);
    }

    private static Block joined(Block lower, Block upper) {
        long[] taken = new long[HIGHEST_WHAT + 1];
        for (int what = 0; what <= HIGHEST_WHAT; what++) {
            taken[what] = takenTogether(takenOf(lower, what), takenOf(upper, what), what);
        }
        return new Block(lower, upper, taken);
    }

    /** All keys of the lower side lie below those of the upper one. */
    private static long takenTogether(long ofLower, long ofUpper, int what) {
        switch (what) {
            case LEAST_KEY:
                return ofLower == NONE ? ofUpper : ofLower;
            case GREATEST_KEY:
                return ofUpper == NONE ? ofLower : ofUpper;
            case GREATEST_STAMP:
                return Math.max(ofLower, ofUpper);
            default:
                return ofLower + ofUpper;
        }
    }

    private static long takenOfNothing(int what) {
        return what == COUNT || what == SUM ? 0 : NONE;
    }

    private static long takenOf(Block block, int what) {
        return block == null ? takenOfNothing(what) : block.taken[what];
    }

    private static Block lowerOf(Block block) {
        return block == null ? null : block.lower;
    }

    private static Block upperOf(Block block) {
        return block == null ? null : block.upper;
    }

    /**
     * Neighbouring keys: one key at level 0, else the two halves of the level below. A block none of
     * whose keys was ever written is null. Nothing in it is changed once it is made: tables share it.
     */
    private static final class Block {
        private final Block lower;
        private final Block upper;

        /** For each what of a part, the answer for this whole block. */
        private final long[] taken;

        private Block(Block lower, Block upper, long[] taken) {
            this.lower = lower;
            this.upper = upper;
            this.taken = taken;
        }
    }
}
