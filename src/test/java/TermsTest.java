/** "Terms": the limits of the words in capitals; those of a PART are tested in PartTest. */
final class TermsTest {
    public static void main(String[] args) {
        keysAre0To1023();
        tablesAreNumberedAsTheyAreMade();
        upTo400Tables();
        tableZeroIsOneOfThese();
        numbersHave64Bits();
        numberOrNone();
        stampsAre0To1000000000();
        stampOfTheChangeThatWroteItLast();
        neverWritten();
        Check.end();
    }

    /** "KEYS are 0..1023." Each of them is taken and is apart from all others; those beyond are not. */
    private static void keysAre0To1023() {
        for (int key = 0; key <= 1023; key++) {
            Subject x = new Subject();
            x.put(0, key, 70, 30).is(1);
            x.get(1, key).is(70);
            x.stamp(1, key).is(30);
            x.part(1, 0, 1023, 0).is(1);
            x.part(1, key, key, 1).is(70);
            x.at(1, 0).is(key);
            x.delete(1, key, 31).is(2);
            x.get(2, key).isUnsupported();
            x.stamp(2, key).is(31);
        }
        for (int key : Edges.WRONG_KEYS) {
            Subject x = Filled.withKeys(0, 5, 1023);
            x.put(3, key, 0, 0).isIllegalArgument();
            x.delete(3, key, 0).isIllegalArgument();
            x.get(3, key).isIllegalArgument();
            x.stamp(3, key).isIllegalArgument();
            x.part(3, key, 1023, 0).isIllegalArgument();
            x.part(3, 0, key, 0).isIllegalArgument();
        }
    }

    /** "TABLES are numbered as they are made": not as the ones that they are made from. */
    private static void tablesAreNumberedAsTheyAreMade() {
        Subject x = new Subject();
        x.put(0, 5, 1, 0).is(1);
        x.put(0, 5, 2, 0).is(2);
        x.delete(1, 5, 0).is(3);
        x.put(1, 5, 4, 0).is(4);
        x.delete(0, 5, 0).is(5);
        x.get(1, 5).is(1);
        x.get(2, 5).is(2);
        x.get(3, 5).isUnsupported();
        x.get(4, 5).is(4);
        x.get(5, 5).isUnsupported();
    }

    /** "(up to 400)": 399 are fewer, 400 are all; the last one is 399, and 400 is none. */
    private static void upTo400Tables() {
        Subject x = Filled.upTo(399);
        x.tables().is(399);
        x.get(398, 397).is(3970);
        x.get(399, 397).isIllegalArgument();
        x.put(398, 398, 1, 1).is(399);
        x.tables().is(400);
        x.get(399, 398).is(1);
        x.get(400, 398).isIllegalArgument();
        x.put(399, 399, 1, 1).isIndexOutOfBounds();
        x.delete(399, 398, 1).isIndexOutOfBounds();
        x.tables().is(400);
    }

    /** "(TABLE 0 is one of these;)": 399 changes are taken, the next is not. */
    private static void tableZeroIsOneOfThese() {
        Subject x = new Subject();
        x.tables().is(1);
        for (int change = 1; change <= 399; change++) {
            x.put(0, change, change, change).is(change);
        }
        x.put(0, 400, 400, 400).isIndexOutOfBounds();
    }

    /** "a number (64 bits)": each bit alone, and each bit alone missing. */
    private static void numbersHave64Bits() {
        Subject x = new Subject();
        for (int bit = 0; bit < 64; bit++) {
            long alone = 1L << bit;
            x.put(2 * bit, 5, alone, 0).is(2 * bit + 1);
            x.get(2 * bit + 1, 5).is(alone);
            x.put(2 * bit + 1, 5, ~alone, 0).is(2 * bit + 2);
            x.get(2 * bit + 2, 5).is(~alone);
        }
        x.put(0, 6, Long.MIN_VALUE, 0).is(129);
        x.get(129, 6).is(Long.MIN_VALUE);
        x.put(0, 6, Long.MAX_VALUE, 0).is(130);
        x.get(130, 6).is(Long.MAX_VALUE);
    }

    /** "a KEY has a number .. or none": 0 and -1 are numbers. */
    private static void numberOrNone() {
        Subject x = new Subject();
        x.put(0, 5, 0, 0).is(1);
        x.put(0, 5, -1, 0).is(2);
        x.get(0, 5).isUnsupported();
        x.get(1, 5).is(0);
        x.get(2, 5).is(-1);
        x.part(0, 5, 5, 0).is(0);
        x.part(1, 5, 5, 0).is(1);
        x.part(2, 5, 5, 0).is(1);
    }

    /** "the STAMP (0 to 1000000000)". */
    private static void stampsAre0To1000000000() {
        for (int stamp : Edges.STAMPS) {
            Subject x = new Subject();
            x.put(0, 5, 7, stamp).is(1);
            x.stamp(1, 5).is(stamp);
            x.delete(0, 5, stamp).is(2);
            x.stamp(2, 5).is(stamp);
            x.part(2, 5, 5, 4).is(stamp);
        }
        for (int stamp : Edges.WRONG_STAMPS) {
            Subject x = new Subject();
            x.put(0, 5, 7, stamp).isIllegalArgument();
            x.delete(0, 5, stamp).isIllegalArgument();
            x.tables().is(1);
        }
    }

    /** "of the change that wrote it last": neither the greatest one nor the first one. */
    private static void stampOfTheChangeThatWroteItLast() {
        Subject x = new Subject();
        x.put(0, 5, 7, 20).is(1);
        x.put(1, 5, 7, 30).is(2);
        x.put(2, 5, 7, 10).is(3);
        x.delete(3, 5, 5).is(4);
        x.put(4, 6, 7, 40).is(5);
        x.stamp(1, 5).is(20);
        x.stamp(2, 5).is(30);
        x.stamp(3, 5).is(10);
        x.stamp(4, 5).is(5);
        x.stamp(5, 5).is(5);
    }

    /** "(-1 if it was never written)": a key that was written with stamp 0 has 0. */
    private static void neverWritten() {
        for (int key : Edges.KEYS) {
            Subject x = new Subject();
            x.stamp(0, key).is(-1);
            x.put(0, key, 0, 0).is(1);
            x.delete(0, key, 0).is(2);
            x.stamp(1, key).is(0);
            x.stamp(2, key).is(0);
            x.stamp(0, key).is(-1);
            x.stamp(2, key ^ 1).is(-1);
        }
    }
}
