/** Promise 10: fits. */
public final class FitsTest {
    public static void main(String[] args) {
        emptyRecordFits();
        recordOfOpenAndGivenUpCallsFits();
        overlappingCallsMayStandInEitherOrder();
        endedBeforeBegunKeepsItsOrder();
        openCallMayExplainAnAnswer();
        valueIsTakenOnce();
        oneWrongAnswerIsEnough();
        brokenRecordDoesNotFitAgain();
        Check.end();
    }

    private static void emptyRecordFits() {
        for (int kind = 0; kind <= 2; kind++) {
            Check.due("kind " + kind, new HandOffRecorder(kind, 1).fits(), true);
            Check.due("kind " + kind, new HandOffRecorder(kind, 8).fits(), true);
        }
    }

    private static void recordOfOpenAndGivenUpCallsFits() {
        HandOffRecorder x = new HandOffRecorder(0, 1);
        for (int i = 0; i < 8; i++) {
            Check.step(x.beginPut(i % 3, i));
            Check.due("open", x.fits(), true);
            Check.step(x.giveUp(i % 3));
            Check.due("given up", x.fits(), true);
        }
    }

    private static void overlappingCallsMayStandInEitherOrder() {
        for (int first = 1; first <= 2; first++) {
            HandOffRecorder x = new HandOffRecorder(0, 2);
            Check.step(x.beginPut(0, 1));
            Check.step(x.beginPut(1, 2));
            Check.step(x.endPut(0, true));
            Check.step(x.endPut(1, true));
            Check.take(x, 2, first);
            Check.due("line, " + first + " taken first", x.fits(), true);
            Check.take(x, 2, 3 - first);
            Check.due("line, both taken", x.fits(), true);
        }
    }

    private static void endedBeforeBegunKeepsItsOrder() {
        HandOffRecorder x = new HandOffRecorder(0, 2);
        Check.put(x, 0, 1, true);
        Check.put(x, 1, 2, true);
        Check.take(x, 2, 2);
        Check.due("line, the later one taken first", x.fits(), false);
        x.renew(0, 2);
        Check.take(x, 2, 1);
        Check.put(x, 0, 1, true);
        Check.due("taken before it was put", x.fits(), false);
    }

    private static void openCallMayExplainAnAnswer() {
        HandOffRecorder x = new HandOffRecorder(1, 1);
        Check.step(x.beginPut(0, 9));
        Check.put(x, 1, 4, false);
        Check.due("filled by the open put", x.fits(), true);
        Check.step(x.beginTake(2));
        Check.put(x, 1, 5, true);
        Check.due("emptied by the open take", x.fits(), true);
        Check.put(x, 1, 6, true);
        Check.due("emptied twice by one take", x.fits(), false);
    }

    private static void valueIsTakenOnce() {
        HandOffRecorder x = new HandOffRecorder(2, 2);
        Check.put(x, 0, 7, true);
        Check.step(x.beginTake(0));
        Check.step(x.beginTake(1));
        Check.step(x.endTake(0, 7));
        Check.due("taken once", x.fits(), true);
        Check.step(x.endTake(1, 7));
        Check.due("taken twice", x.fits(), false);
    }

    /** The wrong answer may be the first, one between or the last of eight. */
    private static void oneWrongAnswerIsEnough() {
        for (int wrong = 0; wrong <= 8; wrong++) {
            HandOffRecorder x = new HandOffRecorder(0, 8);
            for (int i = 0; i < 8; i++) {
                Check.put(x, i % 3, i, i != wrong);
            }
            Check.due("wrong answer of call " + wrong, x.fits(), wrong == 8);
        }
    }

    private static void brokenRecordDoesNotFitAgain() {
        HandOffRecorder x = new HandOffRecorder(0, 2);
        Check.step(x.beginPut(1, 6));
        Check.take(x, 0, 5);
        Check.due("broken", x.fits(), false);
        Check.put(x, 0, 5, true);
        Check.due("put too late", x.fits(), false);
        Check.step(x.giveUp(1));
        Check.due("after giving up", x.fits(), false);
        x.renew(0, 2);
        Check.due("after renew", x.fits(), true);
    }
}
