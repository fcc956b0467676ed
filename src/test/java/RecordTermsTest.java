/** The terms of the record: who has an open call and when, and how many calls may be begun. */
public final class RecordTermsTest {
    public static void main(String[] args) {
        callIsOpenFromItsBeginningUntilItIsEnded();
        callIsOpenFromItsBeginningUntilItIsGivenUp();
        workerHasAtMostOneOpenCall();
        threeWorkersHaveThreeOpenCalls();
        eightCallsMayBeBegunByOneWorker();
        eightCallsMayBeBegunByThreeWorkers();
        eighthCallIsWholeInEveryWay();
        openCallsAreClosedAfterTheEighthWasBegun();
        refusedCallChangesNothingAfterEightCalls();
        Check.end();
    }

    private static void callIsOpenFromItsBeginningUntilItIsEnded() {
        for (int worker = 0; worker < 3; worker++) {
            HandOffRecorder x = new HandOffRecorder(0, 1);
            Check.due("before", x.answers(worker), 0);
            Check.step(x.beginTake(worker));
            Check.due("open", x.answers(worker), 1);
            Check.step(x.endTake(worker, -1));
            Check.due("ended", x.answers(worker), 0);
            Check.due("ended again", x.endTake(worker, -1), false);
            Check.due("given up after its end", x.giveUp(worker), false);
        }
    }

    private static void callIsOpenFromItsBeginningUntilItIsGivenUp() {
        for (int worker = 0; worker < 3; worker++) {
            HandOffRecorder x = new HandOffRecorder(0, 1);
            Check.step(x.beginPut(worker, 3));
            Check.due("open", x.answers(worker), 1);
            Check.step(x.giveUp(worker));
            Check.due("given up", x.answers(worker), 0);
            Check.due("ended after giving up", x.endPut(worker, true), false);
            Check.due("given up again", x.giveUp(worker), false);
        }
    }

    private static void workerHasAtMostOneOpenCall() {
        HandOffRecorder x = new HandOffRecorder(0, 2);
        Check.step(x.beginPut(0, 1));
        Check.due("a second put", x.beginPut(0, 2), false);
        Check.due("a take beside it", x.beginTake(0), false);
        Check.due("explanations()", x.explanations(), 2);
        Check.step(x.endPut(0, true));
        Check.due("ended once, closed", x.endPut(0, true), false);
        Check.due("mayHold(0, 1)", x.mayHold(0, 1), true);
        Check.due("most()", x.most(), 1);
    }

    private static void threeWorkersHaveThreeOpenCalls() {
        HandOffRecorder x = new HandOffRecorder(1, 3);
        for (int worker = 0; worker < 3; worker++) {
            Check.due("beginPut", x.beginPut(worker, worker), true);
        }
        Check.due("three open", x.explanations(), 16);
        for (int worker = 2; worker >= 0; worker--) {
            Check.due("endPut", x.endPut(worker, true), true);
        }
        Check.due("three ended in any order", x.explanations(), 6);
    }

    private static void eightCallsMayBeBegunByOneWorker() {
        for (int worker = 0; worker < 3; worker++) {
            HandOffRecorder x = new HandOffRecorder(0, 8);
            for (int i = 0; i < 8; i++) {
                Check.put(x, worker, i, true);
            }
            Check.due("begun()", x.begun(), 8);
            Check.due("the ninth", x.beginPut(worker, 8), false);
            Check.due("the ninth of another", x.beginTake((worker + 1) % 3), false);
        }
    }

    private static void eightCallsMayBeBegunByThreeWorkers() {
        HandOffRecorder x = new HandOffRecorder(0, 8);
        for (int worker = 0; worker < 3; worker++) {
            Check.put(x, worker, worker, true);
            Check.step(x.beginPut(worker, 9));
            Check.step(x.giveUp(worker));
        }
        Check.step(x.beginTake(0));
        Check.due("seven begun", x.begun(), 7);
        Check.due("the eighth", x.beginTake(1), true);
        Check.due("the ninth", x.beginTake(2), false);
        Check.due("the ninth", x.beginPut(2, 1), false);
        Check.due("begun()", x.begun(), 8);
    }

    /** The eighth call counts in every answer like the ones before. */
    private static void eighthCallIsWholeInEveryWay() {
        HandOffRecorder x = new HandOffRecorder(0, 8);
        for (int i = 0; i < 7; i++) {
            Check.put(x, 0, i, true);
        }
        Check.step(x.beginPut(2, 15));
        Check.due("explanations()", x.explanations(), 2);
        Check.due("outcomes()", x.outcomes(), 2);
        Check.due("fewest()", x.fewest(), 7);
        Check.due("most()", x.most(), 8);
        Check.due("mayHold(7, 15)", x.mayHold(7, 15), true);
        Check.due("certain(2)", x.certain(2), false);
        Check.due("answers(2)", x.answers(2), 1);
        Check.step(x.endPut(2, true));
        Check.due("explanations()", x.explanations(), 1);
        Check.due("fewest()", x.fewest(), 8);
    }

    private static void openCallsAreClosedAfterTheEighthWasBegun() {
        HandOffRecorder x = new HandOffRecorder(0, 8);
        for (int i = 0; i < 5; i++) {
            Check.put(x, 0, i, true);
        }
        Check.step(x.beginPut(0, 5));
        Check.step(x.beginTake(1));
        Check.step(x.beginTake(2));
        Check.due("begun()", x.begun(), 8);
        Check.due("endPut", x.endPut(0, true), true);
        Check.due("endTake", x.endTake(1, 0), true);
        Check.due("giveUp", x.giveUp(2), true);
        Check.due("fits()", x.fits(), true);
        Check.due("fewest()", x.fewest(), 5);
        Check.due("the ninth, all closed", x.beginTake(1), false);
    }

    private static void refusedCallChangesNothingAfterEightCalls() {
        for (int worker = -1; worker <= 3; worker++) {
            int by = worker;
            Check.refused("beginPut", RecordTermsTest::withEightBegun, x -> x.beginPut(by, 1));
            Check.refused("beginTake", RecordTermsTest::withEightBegun, x -> x.beginTake(by));
        }
    }

    /** Worker 0 has an open put, worker 1 an open take, worker 2 none. */
    private static HandOffRecorder withEightBegun() {
        HandOffRecorder x = new HandOffRecorder(0, 4);
        for (int i = 0; i < 3; i++) {
            Check.put(x, 2, i, true);
            Check.step(x.beginTake(2));
            Check.step(x.giveUp(2));
        }
        Check.step(x.beginPut(0, 7));
        Check.step(x.beginTake(1));
        Check.due("begun()", x.begun(), 8);
        return x;
    }
}
