/** Promise 6: part, and what "Terms" says of a PART. */
final class PartTest {
    public static void main(String[] args) {
        fromALowToAHigh();
        everyPartOfEightKeys();
        howManyKeysHaveNumbers();
        theirSum();
        theSumWraps();
        theLeastOfTheseKeys();
        theGreatestOfTheseKeys();
        leastAndGreatestAreKeysNotNumbers();
        leastAndGreatestOfNone();
        theGreatestStamp();
        theGreatestStampIsThatOfAllKeys();
        theGreatestStampCanSink();
        noneWasEverWritten();
        wrongTable();
        wrongLow();
        wrongHigh();
        lowNotAboveHigh();
        wrongWhat();
        Check.end();
    }

    private static void duePart(Subject x, int table, int low, int high, long... want) {
        for (int what = 0; what < want.length; what++) {
            x.part(table, low, high, what).is(want[what]);
        }
    }

    /** "KEYS from a low to a high": both ends belong to it, those just beyond them do not. */
    private static void fromALowToAHigh() {
        Subject x = new Subject();
        x.put(0, 509, 1, 10).is(1);
        x.put(1, 510, 20, 40).is(2);
        x.put(2, 513, 300, 30).is(3);
        x.put(3, 514, 4000, 20).is(4);
        duePart(x, 4, 510, 513, 2, 320, 510, 513, 40);
        duePart(x, 4, 509, 513, 3, 321, 509, 513, 40);
        duePart(x, 4, 510, 514, 3, 4320, 510, 514, 40);
        duePart(x, 4, 511, 513, 1, 300, 513, 513, 30);
        duePart(x, 4, 510, 512, 1, 20, 510, 510, 40);
        duePart(x, 4, 511, 512, 0, 0, -1, -1, -1);
        duePart(x, 4, 0, 1023, 4, 4321, 509, 514, 40);
    }

    /** Each low and high, at both ends of all keys and where the tree is halved. */
    private static void everyPartOfEightKeys() {
        for (int first : new int[] {0, 252, 508, 764, 1016}) {
            Subject x = new Subject();
            PlainTables plain = new PlainTables();
            for (int i = 0; i < 8; i++) {
                int key = first + i * 5 % 8;
                x.put(i, key, 1L << i, 100 - key % 7).is(plain.put(i, key, 1L << i, 100 - key % 7));
            }
            x.delete(8, first + 3, 200).is(plain.delete(8, first + 3, 200));
            lookAtEveryPart(x, plain, first, first + 7);
        }
    }

    private static void lookAtEveryPart(Subject x, PlainTables plain, int first, int last) {
        for (int low = first; low <= last; low++) {
            for (int high = low; high <= last; high++) {
                for (int what = 0; what <= 4; what++) {
                    x.part(9, low, high, what).is(plain.part(9, low, high, what));
                }
            }
        }
    }

    /** "what 0: how many KEYS have numbers": none, one, all that there can be. */
    private static void howManyKeysHaveNumbers() {
        Subject x = Filled.toTheLimit();
        x.part(0, 0, 1023, 0).is(0);
        x.part(1, 0, 1023, 0).is(1);
        x.part(1, 1, 1023, 0).is(0);
        x.part(398, 0, 1023, 0).is(398);
        x.part(399, 0, 1023, 0).is(399);
        x.part(399, 0, 398, 0).is(399);
        x.part(399, 0, 397, 0).is(398);
        x.part(399, 1, 398, 0).is(398);
        Subject y = Filled.withKeys(4, 5, 6);
        y.delete(3, 5, 0).is(4);
        y.put(4, 6, 0, 0).is(5);
        y.part(3, 4, 6, 0).is(3);
        y.part(4, 4, 6, 0).is(2);
        y.part(5, 4, 6, 0).is(2);
    }

    /** "1: their sum": of the numbers of the keys that have numbers, 0 where none has. */
    private static void theirSum() {
        Subject x = new Subject();
        x.part(0, 0, 1023, 1).is(0);
        x.put(0, 100, 7, 30).is(1);
        x.put(1, 700, -20, 10).is(2);
        x.delete(2, 100, 5).is(3);
        x.put(3, 700, 5, 5).is(4);
        x.part(1, 0, 1023, 1).is(7);
        x.part(2, 0, 1023, 1).is(-13);
        x.part(2, 0, 699, 1).is(7);
        x.part(2, 101, 700, 1).is(-20);
        x.part(2, 101, 699, 1).is(0);
        x.part(3, 0, 1023, 1).is(-20);
        x.part(4, 0, 1023, 1).is(5);
    }

    /** "(wrapping)": at the greatest and at the least number, on both sides of each, and back again. */
    private static void theSumWraps() {
        dueSum(Long.MAX_VALUE, Long.MAX_VALUE - 1, 1);
        dueSum(Long.MIN_VALUE, Long.MAX_VALUE, 1);
        dueSum(Long.MIN_VALUE, Long.MIN_VALUE + 1, -1);
        dueSum(Long.MAX_VALUE, Long.MIN_VALUE, -1);
        dueSum(-2, Long.MAX_VALUE, Long.MAX_VALUE);
        dueSum(0, Long.MIN_VALUE, Long.MIN_VALUE);
        dueSum(-1, Long.MIN_VALUE, Long.MAX_VALUE);
        dueSum(Long.MAX_VALUE, Long.MAX_VALUE, 1, -1);
        dueSum(4294967296L, 4294967295L, 1);
        dueSum(2147483648L, 2147483647, 1);
    }

    /** The numbers stand once side by side and once far apart. */
    private static void dueSum(long want, long... numbers) {
        for (int step : new int[] {1, 400}) {
            Subject x = new Subject();
            for (int i = 0; i < numbers.length; i++) {
                x.put(i, 3 + step * i, numbers[i], 0).is(i + 1);
            }
            x.part(numbers.length, 0, 1023, 1).is(want);
            x.part(numbers.length, 3, 3 + step * (numbers.length - 1), 1).is(want);
        }
    }

    /** "2: the least .. of these KEYS": of those of the part that have numbers. */
    private static void theLeastOfTheseKeys() {
        Subject x = Filled.withKeys(1023, 600, 5, 0);
        x.delete(4, 5, 0).is(5);
        x.part(1, 0, 1023, 2).is(1023);
        x.part(2, 0, 1023, 2).is(600);
        x.part(4, 0, 1023, 2).is(0);
        x.part(4, 0, 0, 2).is(0);
        x.part(4, 1, 1023, 2).is(5);
        x.part(5, 1, 1023, 2).is(600);
        x.part(4, 600, 1023, 2).is(600);
        x.part(4, 601, 1023, 2).is(1023);
        x.part(4, 1023, 1023, 2).is(1023);
    }

    /** "3: the greatest of these KEYS". */
    private static void theGreatestOfTheseKeys() {
        Subject x = Filled.withKeys(0, 5, 600, 1023);
        x.delete(4, 600, 0).is(5);
        x.part(1, 0, 1023, 3).is(0);
        x.part(2, 0, 1023, 3).is(5);
        x.part(4, 0, 1023, 3).is(1023);
        x.part(4, 1023, 1023, 3).is(1023);
        x.part(4, 0, 1022, 3).is(600);
        x.part(5, 0, 1022, 3).is(5);
        x.part(4, 0, 600, 3).is(600);
        x.part(4, 0, 599, 3).is(5);
        x.part(4, 0, 4, 3).is(0);
        x.part(4, 0, 0, 3).is(0);
    }

    private static void leastAndGreatestAreKeysNotNumbers() {
        Subject x = new Subject();
        x.put(0, 3, 900, 0).is(1);
        x.put(1, 7, -5, 0).is(2);
        x.put(2, 5, 5000, 0).is(3);
        x.part(3, 0, 1023, 2).is(3);
        x.part(3, 0, 1023, 3).is(7);
        x.part(3, 4, 6, 2).is(5);
        x.part(3, 4, 6, 3).is(5);
    }

    /** "(-1 none)": not for key 0, but for a key that is deleted. */
    private static void leastAndGreatestOfNone() {
        for (int key : Edges.KEYS) {
            Subject x = new Subject();
            x.put(0, key, -1, 5).is(1);
            x.delete(1, key, 6).is(2);
            x.delete(0, key, 6).is(3);
            for (int what = 2; what <= 3; what++) {
                x.part(0, 0, 1023, what).is(-1);
                x.part(1, 0, 1023, what).is(key);
                x.part(1, key, key, what).is(key);
                x.part(1, key ^ 1, key ^ 1, what).is(-1);
                x.part(2, 0, 1023, what).is(-1);
                x.part(3, key, key, what).is(-1);
            }
        }
    }

    /** "4: the greatest STAMP": wherever in the part it stands, and not one from beyond it. */
    private static void theGreatestStamp() {
        int[] keys = {0, 511, 512, 1023};
        for (int newest : keys) {
            Subject x = new Subject();
            for (int i = 0; i < keys.length; i++) {
                x.put(i, keys[i], 7, keys[i] == newest ? 1000000000 : i).is(i + 1);
            }
            x.part(4, 0, 1023, 4).is(1000000000);
            x.part(4, newest, newest, 4).is(1000000000);
            x.part(4, 0, 510, 4).is(newest == 0 ? 1000000000 : 0);
            x.part(4, 0, 511, 4).is(newest <= 511 ? 1000000000 : 1);
            x.part(4, 512, 1023, 4).is(newest >= 512 ? 1000000000 : 3);
            x.part(4, 513, 1023, 4).is(newest == 1023 ? 1000000000 : 3);
        }
    }

    /** "of all KEYS in it": also of those that have no number. */
    private static void theGreatestStampIsThatOfAllKeys() {
        Subject x = new Subject();
        x.put(0, 5, 7, 3).is(1);
        x.delete(1, 6, 8).is(2);
        x.delete(2, 5, 9).is(3);
        duePart(x, 2, 0, 1023, 1, 7, 5, 5, 8);
        duePart(x, 2, 6, 6, 0, 0, -1, -1, 8);
        duePart(x, 3, 0, 1023, 0, 0, -1, -1, 9);
        duePart(x, 3, 0, 5, 0, 0, -1, -1, 9);
    }

    /** A key has the stamp of its last change alone, which may be a lower one. */
    private static void theGreatestStampCanSink() {
        Subject x = new Subject();
        x.put(0, 5, 7, 100).is(1);
        x.put(1, 5, 7, 1).is(2);
        x.put(2, 900, 7, 50).is(3);
        x.delete(3, 900, 0).is(4);
        x.part(1, 0, 1023, 4).is(100);
        x.part(2, 0, 1023, 4).is(1);
        x.part(3, 0, 1023, 4).is(50);
        x.part(4, 0, 1023, 4).is(1);
    }

    /** "(-1 if none was ever written)": one that was written with stamp 0 makes it 0. */
    private static void noneWasEverWritten() {
        for (int key : Edges.KEYS) {
            Subject x = new Subject();
            x.put(0, key, 7, 0).is(1);
            x.delete(0, key, 0).is(2);
            x.part(0, 0, 1023, 4).is(-1);
            x.part(0, key, key, 4).is(-1);
            for (int table = 1; table <= 2; table++) {
                x.part(table, 0, 1023, 4).is(0);
                x.part(table, key, key, 4).is(0);
                x.part(table, key ^ 1, key ^ 1, 4).is(-1);
            }
        }
    }

    /** "IllegalArgumentException: table". */
    private static void wrongTable() {
        Subject x = Filled.withKeys(5, 6);
        for (int table : Edges.wrongTables(3)) {
            x.part(table, 0, 1023, 0).isIllegalArgument();
        }
        x.part(0, 0, 1023, 0).is(0);
        x.part(2, 0, 1023, 0).is(2);
    }

    /** "(0..1023": "IllegalArgumentException: .. low", for a high that is right and for the same one. */
    private static void wrongLow() {
        Subject x = Filled.withKeys(0, 5, 1023);
        for (int low : Edges.WRONG_KEYS) {
            x.part(3, low, 1023, 0).isIllegalArgument();
            x.part(3, low, low, 0).isIllegalArgument();
        }
        x.part(3, 0, 1023, 0).is(3);
        x.part(3, 1, 1023, 0).is(2);
        x.part(3, 1023, 1023, 0).is(1);
    }

    /** "(0..1023": "IllegalArgumentException: .. high". */
    private static void wrongHigh() {
        Subject x = Filled.withKeys(0, 5, 1023);
        for (int high : Edges.WRONG_KEYS) {
            x.part(3, 0, high, 0).isIllegalArgument();
        }
        x.part(3, 1023, 1024, 0).isIllegalArgument();
        x.part(3, 0, 1023, 0).is(3);
        x.part(3, 0, 1022, 0).is(2);
        x.part(3, 0, 0, 0).is(1);
    }

    /** "low not above high": one below it and the same are taken, one above it is not. */
    private static void lowNotAboveHigh() {
        Subject x = Filled.withKeys(0, 1, 511, 512, 1022, 1023);
        for (int low : new int[] {0, 511, 1022}) {
            x.part(6, low, low + 1, 0).is(2);
            x.part(6, low, low, 0).is(1);
            x.part(6, low + 1, low + 1, 0).is(1);
            for (int what = 0; what <= 4; what++) {
                x.part(6, low + 1, low, what).isIllegalArgument();
                x.part(0, low + 1, low, what).isIllegalArgument();
            }
        }
        x.part(6, 1023, 0, 0).isIllegalArgument();
    }

    /** "IllegalArgumentException: .. what": 0 and 4 are the ends. */
    private static void wrongWhat() {
        Subject x = Filled.withKeys(5);
        for (int what : Edges.WRONG_WHATS) {
            x.part(0, 0, 1023, what).isIllegalArgument();
            x.part(1, 0, 1023, what).isIllegalArgument();
            x.part(1, 7, 9, what).isIllegalArgument();
        }
        x.part(1, 0, 1023, 0).is(1);
        x.part(1, 0, 1023, 4).is(0);
    }
}
