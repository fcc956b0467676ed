/** Promise 5: endPut. */
public final class EndPutTest {
    public static void main(String[] args) {
        endsWithEitherAnswer();
        isAcceptedWhereTheRecordDoesNotFit();
        refusesWhatIsNoOpenPut();
        Check.end();
    }

    private static void endsWithEitherAnswer() {
        HandOffRecorder x = new HandOffRecorder(0, 1);
        Check.step(x.beginPut(0, 4));
        Check.step(x.beginPut(1, 5));
        Check.due("endPut(0, false)", x.endPut(0, false), true);
        Check.due("events()", x.events(), 3);
        Check.due("explanations()", x.explanations(), 1);
        Check.due("endPut(1, true)", x.endPut(1, true), true);
        Check.due("fits()", x.fits(), true);
        Check.due("mayHold(0, 5)", x.mayHold(0, 5), true);
        Check.due("mayHold(0, 4)", x.mayHold(0, 4), false);
        Check.due("answers(0)", x.answers(0), 0);
    }

    private static void isAcceptedWhereTheRecordDoesNotFit() {
        HandOffRecorder x = new HandOffRecorder(2, 1);
        Check.step(x.beginPut(0, 4));
        Check.due("endPut(0, false)", x.endPut(0, false), true);
        Check.due("fits()", x.fits(), false);
        Check.step(x.beginPut(0, 4));
        Check.due("endPut(0, true)", x.endPut(0, true), true);
        Check.due("events()", x.events(), 4);
    }

    private static void refusesWhatIsNoOpenPut() {
        HandOffRecorder x = new HandOffRecorder(0, 2);
        Check.put(x, 2, 4, true);
        Check.step(x.beginTake(0));
        Check.step(x.beginPut(1, 6));
        String before = Check.state(x);
        int[] workers = {-1, 3, Integer.MIN_VALUE, Integer.MAX_VALUE, 0, 2};
        for (int worker : workers) {
            Check.refused("endPut(" + worker + ", true)", x.endPut(worker, true), x, before);
            Check.refused("endPut(" + worker + ", false)", x.endPut(worker, false), x, before);
        }
        Check.step(x.giveUp(1));
        Check.refused("endPut of a given up put", x.endPut(1, true), x, Check.state(x));
    }
}
