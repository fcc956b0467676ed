import java.util.function.Supplier;

/** Promise 5: endPut. */
public final class EndPutTest {
    public static void main(String[] args) {
        isAnEventForEveryWorkerAndEitherAnswer();
        answerStoredIsTheOneThatCounts();
        isAcceptedWhetherOrNotTheRecordFitsThen();
        refusedWhenWorkerIsNotZeroToTwo();
        refusedWhenTheWorkerHasNoOpenPut();
        refusedWhenOnlyTheOthersHaveOpenPuts();
        refusedAlsoWhereTheRecordDoesNotFit();
        Check.end();
    }

    private static void isAnEventForEveryWorkerAndEitherAnswer() {
        for (int worker = 0; worker < 3; worker++) {
            int by = worker;
            Check.accepted("endPut(" + by + ", true)", EndPutTest::withThreeOpenPuts, x -> x.endPut(by, true));
            Check.accepted("endPut(" + by + ", false)", EndPutTest::withThreeOpenPuts, x -> x.endPut(by, false));
        }
    }

    private static void answerStoredIsTheOneThatCounts() {
        HandOffRecorder x = withThreeOpenPuts();
        Check.step(x.endPut(0, false));
        Check.due("explanations()", x.explanations(), 6);
        Check.due("mayHold(0, 4)", x.mayHold(0, 4), false);
        Check.step(x.endPut(1, true));
        Check.due("explanations()", x.explanations(), 3);
        Check.due("mayHold(0, 5)", x.mayHold(0, 5), true);
        Check.due("mayHold(0, 6)", x.mayHold(0, 6), false);
        Check.due("begun()", x.begun(), 3);
        Check.due("its call is no longer open", x.answers(0), 0);
    }

    private static void isAcceptedWhetherOrNotTheRecordFitsThen() {
        HandOffRecorder x = new HandOffRecorder(2, 1);
        Check.step(x.beginPut(0, 4));
        Check.due("breaks by false", x.endPut(0, false), true);
        Check.broken("after false", x, 2);
        Check.step(x.beginPut(0, 4));
        Check.due("in a broken record", x.endPut(0, true), true);
        Check.due("events()", x.events(), 4);
        x.renew(1, 1);
        Check.put(x, 0, 4, true);
        Check.step(x.beginPut(1, 5));
        Check.due("breaks by true", x.endPut(1, true), true);
        Check.broken("after true", x, 4);
    }

    private static void refusedWhenWorkerIsNotZeroToTwo() {
        for (int worker : Check.NO_WORKERS) {
            bothRefused("endPut(" + worker + ")", EndPutTest::withThreeOpenPuts, worker);
        }
    }

    private static void refusedWhenTheWorkerHasNoOpenPut() {
        for (int worker = 0; worker < 3; worker++) {
            int by = worker;
            bothRefused("endPut of a worker without a call", () -> new HandOffRecorder(0, 1), by);
            bothRefused("endPut of an open take", () -> withOpenTake(by), by);
            bothRefused("endPut of an ended put", () -> withEndedPut(by), by);
            bothRefused("endPut of a given up put", () -> withGivenUpPut(by), by);
        }
    }

    private static void refusedWhenOnlyTheOthersHaveOpenPuts() {
        for (int worker = 0; worker < 3; worker++) {
            int by = worker;
            bothRefused("endPut of an ended one among open ones", () -> endedAmongOpen(by), by);
        }
    }

    private static void refusedAlsoWhereTheRecordDoesNotFit() {
        for (int worker = -1; worker <= 3; worker++) {
            bothRefused("endPut(" + worker + ") in a broken record", EndPutTest::broken, worker);
        }
    }

    private static void bothRefused(String call, Supplier<HandOffRecorder> before, int worker) {
        Check.refused(call + " with true", before, x -> x.endPut(worker, true));
        Check.refused(call + " with false", before, x -> x.endPut(worker, false));
    }

    private static HandOffRecorder withThreeOpenPuts() {
        HandOffRecorder x = new HandOffRecorder(0, 1);
        for (int worker = 0; worker < 3; worker++) {
            Check.step(x.beginPut(worker, 4 + worker));
        }
        return x;
    }

    private static HandOffRecorder withOpenTake(int worker) {
        HandOffRecorder x = new HandOffRecorder(0, 2);
        Check.put(x, worker, 3, true);
        Check.step(x.beginTake(worker));
        return x;
    }

    private static HandOffRecorder withEndedPut(int worker) {
        HandOffRecorder x = new HandOffRecorder(1, 2);
        Check.put(x, worker, 3, true);
        return x;
    }

    private static HandOffRecorder withGivenUpPut(int worker) {
        HandOffRecorder x = new HandOffRecorder(1, 2);
        Check.step(x.beginPut(worker, 3));
        Check.step(x.giveUp(worker));
        return x;
    }

    private static HandOffRecorder endedAmongOpen(int worker) {
        HandOffRecorder x = withThreeOpenPuts();
        Check.step(x.endPut(worker, true));
        return x;
    }

    private static HandOffRecorder broken() {
        HandOffRecorder x = new HandOffRecorder(1, 2);
        Check.put(x, 0, 3, false);
        Check.step(x.beginTake(1));
        Check.step(x.beginPut(2, 3));
        Check.step(x.giveUp(2));
        Check.due("fits()", x.fits(), false);
        return x;
    }
}
