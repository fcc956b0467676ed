/** Promise 13: outcomes. */
public final class OutcomesTest {
    public static void main(String[] args) {
        emptyRowIsTheOneOfTheEmptyRecord();
        likeRowsCountOnce();
        lengthTellsRowsApart();
        orderTellsRowsApart();
        valueAtEveryPlaceTellsRowsApart();
        takenValuesLeaveNoTrace();
        isZeroWhenItDoesNotFit();
        Check.end();
    }

    private static void emptyRowIsTheOneOfTheEmptyRecord() {
        Check.due("empty record", new HandOffRecorder(0, 8).outcomes(), 1);
    }

    private static void likeRowsCountOnce() {
        HandOffRecorder x = new HandOffRecorder(0, 8);
        Check.step(x.beginPut(0, 5));
        Check.step(x.beginPut(1, 5));
        Check.step(x.beginPut(2, 5));
        Check.due("none to three fives", x.outcomes(), 4);
        x.renew(0, 8);
        Check.step(x.beginTake(0));
        Check.step(x.beginTake(1));
        Check.due("takes of nothing", x.outcomes(), 1);
        x.renew(1, 1);
        Check.put(x, 0, 5, true);
        Check.step(x.beginPut(1, 6));
        Check.step(x.beginPut(2, 7));
        Check.due("puts without room", x.outcomes(), 1);
    }

    private static void lengthTellsRowsApart() {
        HandOffRecorder x = new HandOffRecorder(1, 8);
        Check.step(x.beginPut(0, 0));
        Check.due("nothing or a zero", x.outcomes(), 2);
        Check.step(x.beginPut(1, 0));
        Check.due("up to two zeros", x.outcomes(), 3);
        Check.step(x.endPut(1, true));
        Check.due("one zero or two", x.outcomes(), 2);
        x.renew(1, 8);
        for (int i = 0; i < 7; i++) {
            Check.put(x, 0, 0, true);
        }
        Check.step(x.beginPut(0, 0));
        Check.due("seven zeros or eight", x.outcomes(), 2);
    }

    private static void orderTellsRowsApart() {
        HandOffRecorder x = new HandOffRecorder(1, 8);
        Check.step(x.beginPut(0, 1));
        Check.step(x.beginPut(1, 2));
        Check.step(x.endPut(0, true));
        Check.step(x.endPut(1, true));
        Check.due("either order", x.outcomes(), 2);
        Check.step(x.beginTake(2));
        Check.due("and with one taken", x.outcomes(), 4);
    }

    /** Two overlapping puts after up to six others: rows that differ at two places alone, up to the last two. */
    private static void valueAtEveryPlaceTellsRowsApart() {
        for (int before = 0; before <= 6; before++) {
            HandOffRecorder x = new HandOffRecorder(0, 8);
            for (int i = 0; i < before; i++) {
                Check.put(x, 0, 15, true);
            }
            Check.step(x.beginPut(1, 0));
            Check.step(x.beginPut(2, 15));
            Check.step(x.endPut(1, true));
            Check.step(x.endPut(2, true));
            Check.due(before + " others before", x.outcomes(), 2);
        }
    }

    /** Five explanations, and two of them end with the same row, reached with a value more that was taken again. */
    private static void takenValuesLeaveNoTrace() {
        for (int kind = 0; kind <= 2; kind++) {
            HandOffRecorder x = new HandOffRecorder(kind, 8);
            Check.put(x, 0, 0, true);
            Check.step(x.beginPut(0, 15));
            Check.step(x.beginTake(1));
            Check.due("kind " + kind, x.explanations(), 5);
            Check.due("kind " + kind, x.outcomes(), 4);
        }
    }

    private static void isZeroWhenItDoesNotFit() {
        HandOffRecorder x = new HandOffRecorder(2, 8);
        Check.put(x, 0, 1, false);
        Check.due("broken", x.outcomes(), 0);
        Check.step(x.beginPut(0, 2));
        Check.due("still broken", x.outcomes(), 0);
        x.renew(2, 8);
        Check.due("after renew", x.outcomes(), 1);
    }
}
