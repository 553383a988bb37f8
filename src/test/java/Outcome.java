/** What came of a call: its answer in digits, or the name of the very class of its exception. */
record Outcome(String call, String came) {
    /** A call that is tried. */
    interface Call {
        long answer();
    }

    static Outcome of(String call, Call tried) {
        return new Outcome(call, cameOf(tried));
    }

    void is(long want) {
        Check.due(call, came, String.valueOf(want));
    }

    void isIllegalArgument() {
        isThrown(IllegalArgumentException.class);
    }

    void isIndexOutOfBounds() {
        isThrown(IndexOutOfBoundsException.class);
    }

    void isUnsupported() {
        isThrown(UnsupportedOperationException.class);
    }

    void isAsThatOf(Call other) {
        Check.due(call, came, cameOf(other));
    }

    private void isThrown(Class<? extends RuntimeException> want) {
        Check.due(call, came, want.getName());
    }

    private static String cameOf(Call tried) {
        try {
            return String.valueOf(tried.answer());
        } catch (RuntimeException thrown) {
            return thrown.getClass().getName();
        }
    }
}
