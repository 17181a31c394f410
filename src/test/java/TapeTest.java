/** Promises 1 to 3: a new object, feed, end. */
public final class TapeTest {
    public static void main(String[] args) {
        newObject();
        feedCountsBytes();
        feedPutsTheHighestByteFirst();
        endCutsTheTape();
        Check.finish();
    }

    private static void newObject() {
        DilutedDesk desk = new DilutedDesk();
        Check.due("NONE", DilutedDesk.NONE, -1);
        int[] due = {0, 0, 0, 1, -1, 0, 0};
        for (int what = 0; what < due.length; what++) {
            Check.due("new: now(" + what + ")", desk.now(what), due[what]);
        }
        for (int quarter = 0; quarter < 4; quarter++) {
            Check.due("new: profit of " + quarter, desk.quarter(quarter, 0), 0);
            Check.due("new: price of " + quarter, desk.quarter(quarter, 1), 1);
        }
        Check.due("new: shares(0)", desk.shares(0, false), 1);
        Check.due("new: weight(0, 3)", desk.weight(0, 3), 360);
        Check.due("new: fault()", desk.fault(), 0);
        Check.due("new: undo()", desk.undo(), -1);
    }

    private static void feedCountsBytes() {
        DilutedDesk desk = new DilutedDesk();
        for (int had = 0; had < 740; had += 20) {
            Check.due("feed at " + had, desk.feed(0, 0, 0, 0, 0), had + 20);
        }
        Check.due("feed at 740", desk.feed(0, 0, 0, 0, 0), -1);
        Check.due("bytes of a full tape", desk.now(6), 740);
        Check.due("end(721)", desk.end(721), true);
        Check.due("feed at 721", desk.feed(0, 0, 0, 0, 0), -1);
        Check.due("bytes behind a refused feed", desk.now(6), 721);
        Check.due("end(720)", desk.end(720), true);
        Check.due("feed at 720", desk.feed(0, 0, 0, 0, 0), 740);
    }

    private static void feedPutsTheHighestByteFirst() {
        DilutedDesk desk = new DilutedDesk();
        // "shares 7;" with a byte above 127 behind it: the fault's place tells the order.
        desk.feed(0x73686172, 0x65732037, 0x3bffffff, -1, Integer.MIN_VALUE);
        Check.due("text() of mixed bytes", desk.text(), -1 - 9);
        Check.due("fault() of mixed bytes", desk.fault(), 1);
    }

    private static void endCutsTheTape() {
        DilutedDesk desk = new DilutedDesk();
        Check.due("end(0) of an empty tape", desk.end(0), true);
        Check.due("end(1) of an empty tape", desk.end(1), false);
        desk.feed(1, 2, 3, 4, 5);
        Check.due("end(-1)", desk.end(-1), false);
        Check.due("end(21)", desk.end(21), false);
        Check.due("end(least)", desk.end(Integer.MIN_VALUE), false);
        Check.due("end(most)", desk.end(Integer.MAX_VALUE), false);
        Check.due("refused ends leave the tape", desk.now(6), 20);
        Check.due("end(20)", desk.end(20), true);
        Check.due("end(5)", desk.end(5), true);
        Check.due("bytes behind end(5)", desk.now(6), 5);
        Check.due("feed at 5", desk.feed(1, 2, 3, 4, 5), 25);
        Check.due("end(6)", desk.end(6), true);
    }
}
