import java.util.ArrayList;
import java.util.List;

/** Promise 1, on exceptions: which of several is thrown, and that a call that throws changes nothing. */
final class RefusedCallsTest {
    /** A call that must be refused. */
    interface Refused {
        void by(Subject x);
    }

    public static void main(String[] args) {
        wrongArgumentIsNamedBeforeTheFullRoom();
        wrongArgumentIsNamedBeforeTheMissingNumber();
        wrongTableIsNamedBeforeTheMissingKey();
        refusedArgumentChangesNothing();
        missingNumberOrKeyChangesNothing();
        refusedChangeOfAFullObjectChangesNothing();
        Check.end();
    }

    /** "Of several exceptions the one named first is thrown", put and delete; one alone beside it. */
    private static void wrongArgumentIsNamedBeforeTheFullRoom() {
        Subject x = Filled.toTheLimit();
        for (int table : Edges.wrongTables(400)) {
            x.put(table, 0, 0, 0).isIllegalArgument();
            x.delete(table, 0, 0).isIllegalArgument();
        }
        for (int key : Edges.WRONG_KEYS) {
            x.put(0, key, 0, 0).isIllegalArgument();
            x.delete(0, key, 0).isIllegalArgument();
        }
        for (int stamp : Edges.WRONG_STAMPS) {
            x.put(0, 0, 0, stamp).isIllegalArgument();
            x.delete(0, 0, stamp).isIllegalArgument();
        }
        x.put(0, 0, 0, 0).isIndexOutOfBounds();
        x.delete(0, 0, 0).isIndexOutOfBounds();
    }

    /** "Of several exceptions the one named first is thrown", get: a wrong key has no number either. */
    private static void wrongArgumentIsNamedBeforeTheMissingNumber() {
        Subject x = Filled.withKeys(5);
        for (int key : Edges.WRONG_KEYS) {
            x.get(0, key).isIllegalArgument();
            x.get(1, key).isIllegalArgument();
        }
        for (int table : Edges.wrongTables(2)) {
            x.get(table, 6).isIllegalArgument();
        }
        x.get(1, 6).isUnsupported();
    }

    /** "Of several exceptions the one named first is thrown", at. */
    private static void wrongTableIsNamedBeforeTheMissingKey() {
        Subject x = Filled.withKeys(5);
        for (int table : Edges.wrongTables(2)) {
            x.at(table, -1).isIllegalArgument();
            x.at(table, 1).isIllegalArgument();
        }
        x.at(1, -1).isIndexOutOfBounds();
        x.at(1, 1).isIndexOutOfBounds();
    }

    /** "a call that throws changes nothing": IllegalArgumentException. */
    private static void refusedArgumentChangesNothing() {
        dueUnchanged(x -> x.put(5, 5, 8, 8).isIllegalArgument());
        dueUnchanged(x -> x.put(-1, 5, 8, 8).isIllegalArgument());
        dueUnchanged(x -> x.put(4, -1, 8, 8).isIllegalArgument());
        dueUnchanged(x -> x.put(4, 1024, 8, 8).isIllegalArgument());
        dueUnchanged(x -> x.put(4, 5, 8, -1).isIllegalArgument());
        dueUnchanged(x -> x.put(4, 5, 8, 1000000001).isIllegalArgument());
        dueUnchanged(x -> x.delete(5, 5, 8).isIllegalArgument());
        dueUnchanged(x -> x.delete(-1, 5, 8).isIllegalArgument());
        dueUnchanged(x -> x.delete(4, -1, 8).isIllegalArgument());
        dueUnchanged(x -> x.delete(4, 1024, 8).isIllegalArgument());
        dueUnchanged(x -> x.delete(4, 5, -1).isIllegalArgument());
        dueUnchanged(x -> x.delete(4, 5, 1000000001).isIllegalArgument());
        dueUnchanged(x -> x.get(5, 5).isIllegalArgument());
        dueUnchanged(x -> x.get(4, 1024).isIllegalArgument());
        dueUnchanged(x -> x.stamp(5, 5).isIllegalArgument());
        dueUnchanged(x -> x.stamp(4, 1024).isIllegalArgument());
        dueUnchanged(x -> x.part(4, 6, 5, 0).isIllegalArgument());
        dueUnchanged(x -> x.part(4, 5, 6, 5).isIllegalArgument());
        dueUnchanged(x -> x.at(5, 0).isIllegalArgument());
        dueUnchanged(x -> x.differ(5, 0).isIllegalArgument());
        dueUnchanged(x -> x.differ(0, 5).isIllegalArgument());
    }

    /** "a call that throws changes nothing": UnsupportedOperationException, and that of at. */
    private static void missingNumberOrKeyChangesNothing() {
        dueUnchanged(x -> x.get(0, 5).isUnsupported());
        dueUnchanged(x -> x.get(3, 5).isUnsupported());
        dueUnchanged(x -> x.at(0, 0).isIndexOutOfBounds());
        dueUnchanged(x -> x.at(4, 2).isIndexOutOfBounds());
        dueUnchanged(x -> x.at(4, -1).isIndexOutOfBounds());
    }

    /** "a call that throws changes nothing": there are 400. */
    private static void refusedChangeOfAFullObjectChangesNothing() {
        dueUnchangedWhenFull(x -> x.put(399, 5, 8, 8).isIndexOutOfBounds());
        dueUnchangedWhenFull(x -> x.put(0, 399, 8, 8).isIndexOutOfBounds());
        dueUnchangedWhenFull(x -> x.delete(399, 5, 8).isIndexOutOfBounds());
        dueUnchangedWhenFull(x -> x.delete(0, 399, 8).isIndexOutOfBounds());
        dueUnchangedWhenFull(x -> x.put(400, 5, 8, 8).isIllegalArgument());
        dueUnchangedWhenFull(x -> x.delete(399, 5, -1).isIllegalArgument());
    }

    private static Subject fiveTables() {
        Subject x = new Subject();
        x.put(0, 5, 7, 3);
        x.put(1, 1023, -1, 9);
        x.delete(2, 5, 4);
        x.put(1, 0, 0, 0);
        return x;
    }

    /** Behind a refused call all answers are those of an object that never had it, changes too. */
    private static void dueUnchanged(Refused refused) {
        Subject x = fiveTables();
        Subject twin = fiveTables();
        refused.by(x);
        dueSame(answers(x, 0, 1, 2, 3, 4), answers(twin, 0, 1, 2, 3, 4));
        x.put(4, 6, 1, 1).is(5);
        twin.put(4, 6, 1, 1).is(5);
        dueSame(answers(x, 4, 5), answers(twin, 4, 5));
    }

    private static void dueUnchangedWhenFull(Refused refused) {
        Subject x = Filled.toTheLimit();
        refused.by(x);
        dueSame(answers(x, 0, 200, 399), answers(Filled.toTheLimit(), 0, 200, 399));
    }

    private static List<Outcome> answers(Subject x, int... tables) {
        List<Outcome> all = new ArrayList<>();
        all.add(x.tables());
        for (int table : tables) {
            for (int what = 0; what <= 4; what++) {
                all.add(x.part(table, 0, 1023, what));
            }
            for (int key : new int[] {0, 5, 6, 399, 1023}) {
                all.add(x.get(table, key));
                all.add(x.stamp(table, key));
            }
            for (int k = 0; k <= 3; k++) {
                all.add(x.at(table, k));
            }
            all.add(x.differ(0, table));
            all.add(x.differ(table, tables[tables.length - 1]));
        }
        return all;
    }

    private static void dueSame(List<Outcome> got, List<Outcome> want) {
        for (int i = 0; i < want.size(); i++) {
            Check.due(got.get(i).call(), got.get(i).came(), want.get(i).came());
        }
    }
}
