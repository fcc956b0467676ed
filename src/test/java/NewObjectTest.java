/** Promise 1: a new object. */
public final class NewObjectTest {
    public static void main(String[] args) {
        recordIsEmpty();
        kindsTakeFromTheirEnd();
        otherKindsAreLines();
        capacityIsKeptWithinOneAndEight();
        Check.end();
    }

    private static void recordIsEmpty() {
        HandOffRecorder x = new HandOffRecorder(1, 4);
        Check.due("events()", x.events(), 0);
        Check.due("begun()", x.begun(), 0);
        Check.due("fits()", x.fits(), true);
        Check.due("brokenAt()", x.brokenAt(), 0);
        Check.due("explanations()", x.explanations(), 1);
        Check.due("outcomes()", x.outcomes(), 1);
        Check.due("fewest()", x.fewest(), 0);
        Check.due("most()", x.most(), 0);
        Check.due("mayHold(0, 0)", x.mayHold(0, 0), false);
        Check.due("certain(0)", x.certain(0), false);
        Check.due("answers(0)", x.answers(0), 0);
    }

    private static void kindsTakeFromTheirEnd() {
        Check.due("line, worker 0", firstTaken(0, 0), 1);
        Check.due("line, worker 2", firstTaken(0, 2), 1);
        Check.due("pile, worker 0", firstTaken(1, 0), 3);
        Check.due("pile, worker 1", firstTaken(1, 1), 3);
        Check.due("shared row, owner", firstTaken(2, 0), 3);
        Check.due("shared row, worker 1", firstTaken(2, 1), 1);
        Check.due("shared row, worker 2", firstTaken(2, 2), 1);
    }

    private static void otherKindsAreLines() {
        int[] kinds = {-1, 3, 5, Integer.MIN_VALUE, Integer.MAX_VALUE};
        for (int kind : kinds) {
            Check.due("kind " + kind, firstTaken(kind, 0), 1);
            Check.due("worker 1 puts, kind " + kind, new HandOffRecorder(kind, 2).beginPut(1, 0), true);
        }
    }

    private static void capacityIsKeptWithinOneAndEight() {
        int[] given = {Integer.MIN_VALUE, -1, 0, 1, 2, 7, 8, 9, Integer.MAX_VALUE};
        int[] due = {1, 1, 1, 1, 2, 7, 8, 8, 8};
        for (int i = 0; i < given.length; i++) {
            Check.due("room for capacity " + given[i], room(given[i]), due[i]);
        }
    }

    /** The value that worker gets, of 1, 2, 3 put one after the other; -2 when none explains the record. */
    private static int firstTaken(int kind, int worker) {
        for (int value = -1; value < 16; value++) {
            HandOffRecorder x = new HandOffRecorder(kind, 4);
            for (int put = 1; put <= 3; put++) {
                Check.put(x, 0, put, true);
            }
            Check.take(x, worker, value);
            if (x.fits()) {
                return value;
            }
        }
        return -2;
    }

    private static int room(int capacity) {
        HandOffRecorder x = new HandOffRecorder(0, capacity);
        for (int put = 0; put < 8; put++) {
            x.beginPut(0, put);
            x.endPut(0, true);
            if (!x.fits()) {
                return put;
            }
        }
        return 8;
    }
}
