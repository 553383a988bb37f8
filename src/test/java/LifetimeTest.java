/** "An object is used for at most 512 calls after it has been made": all of them are as due. */
final class LifetimeTest {
    public static void main(String[] args) {
        lastCallsAreLooks();
        changeAmongTheLastCalls();
        looksAlone();
        refusedCallsAlone();
        changesAlone();
        Check.end();
    }

    /** 399 changes and then 113 looks, each of a table that is full of changes. */
    private static void lastCallsAreLooks() {
        Subject x = Filled.toTheLimit();
        for (int i = 0; i < 16; i++) {
            x.get(399, 398 - i).is(10L * (398 - i));
            x.get(399, 399 + i).isUnsupported();
            x.stamp(399, 398 - i).is(398 - i);
            x.part(399, i, 1023, 0).is(399 - i);
            x.at(399, 398 - i).is(398 - i);
            x.differ(i, 399).is(399 - i);
            x.tables().is(400);
        }
        x.part(399, 0, 1023, 1).is(10L * 399 * 398 / 2);
        Check.due("calls left", String.valueOf(x.callsLeft()), "0");
    }

    private static void changeAmongTheLastCalls() {
        Subject x = Filled.upTo(399);
        while (x.callsLeft() > 4) {
            x.at(398, 397).is(397);
        }
        x.tables().is(399);
        x.put(398, 1023, 7, 3).is(399);
        x.delete(0, 0, 0).isIndexOutOfBounds();
        x.get(399, 1023).is(7);
    }

    private static void looksAlone() {
        Subject x = new Subject();
        while (x.callsLeft() > 2) {
            x.part(0, 0, 1023, 4).is(-1);
            x.differ(0, 0).is(0);
        }
        x.tables().is(1);
        x.put(0, 5, 7, 3).is(1);
    }

    private static void refusedCallsAlone() {
        Subject x = new Subject();
        while (x.callsLeft() > 4) {
            x.put(1, 0, 0, 0).isIllegalArgument();
            x.get(0, 0).isUnsupported();
            x.at(0, 0).isIndexOutOfBounds();
            x.delete(0, 0, -1).isIllegalArgument();
        }
        x.tables().is(1);
        x.put(0, 1023, 7, 3).is(1);
        x.get(1, 1023).is(7);
        x.part(1, 0, 1023, 0).is(1);
    }

    /** 512 changes are tried; 399 of them are taken. */
    private static void changesAlone() {
        Subject x = new Subject();
        for (int call = 1; call <= 399; call++) {
            x.put(call - 1, call, call, call).is(call);
        }
        while (x.callsLeft() > 0) {
            x.put(399, 0, 0, 0).isIndexOutOfBounds();
        }
    }
}
