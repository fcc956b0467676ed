/** Promise 4: beginTake. */
public final class BeginTakeTest {
    public static void main(String[] args) {
        isAnEventForEveryWorkerAndKind();
        isAcceptedWhereTheRecordDoesNotFit();
        refusedWhenWorkerIsNotZeroToTwo();
        refusedWhileTheWorkerHasAnOpenCall();
        acceptedOnceTheCallIsEndedOrGivenUp();
        acceptedWhileOnlyTheOthersHaveOpenCalls();
        refusedWhenEightCallsWereBegun();
        refusedAlsoWhereTheRecordDoesNotFit();
        Check.end();
    }

    private static void isAnEventForEveryWorkerAndKind() {
        for (int kind = 0; kind <= 2; kind++) {
            for (int worker = 0; worker <= 2; worker++) {
                beginsATake(new HandOffRecorder(kind, 1), worker);
            }
        }
    }

    private static void beginsATake(HandOffRecorder x, int worker) {
        Check.due("beginTake(" + worker + ")", x.beginTake(worker), true);
        Check.due("events()", x.events(), 1);
        Check.due("begun()", x.begun(), 1);
        Check.due("explanations()", x.explanations(), 2);
        Check.due("most()", x.most(), 0);
        Check.due("it is a take", x.endPut(worker, true), false);
        Check.due("it is open", x.endTake(worker, -1), true);
    }

    private static void isAcceptedWhereTheRecordDoesNotFit() {
        Check.accepted("beginTake(1)", BeginTakeTest::broken, x -> x.beginTake(1));
    }

    private static void refusedWhenWorkerIsNotZeroToTwo() {
        for (int worker : Check.NO_WORKERS) {
            for (int kind = 0; kind <= 2; kind++) {
                int of = kind;
                Check.refused("beginTake(" + worker + ")", () -> new HandOffRecorder(of, 3), x -> x.beginTake(worker));
            }
            Check.refused("beginTake(" + worker + ")", () -> withOpenPut(0), x -> x.beginTake(worker));
        }
    }

    private static void refusedWhileTheWorkerHasAnOpenCall() {
        for (int worker = 0; worker < 3; worker++) {
            int by = worker;
            Check.refused("beginTake on an open put", () -> withOpenPut(by), x -> x.beginTake(by));
            Check.refused("beginTake on an open take", () -> withOpenTake(by), x -> x.beginTake(by));
        }
    }

    private static void acceptedOnceTheCallIsEndedOrGivenUp() {
        for (int worker = 0; worker < 3; worker++) {
            int by = worker;
            Check.accepted("after an ended take", () -> ended(by), x -> x.beginTake(by));
            Check.accepted("after a given up put", () -> givenUp(withOpenPut(by), by), x -> x.beginTake(by));
            Check.accepted("after a given up take", () -> givenUp(withOpenTake(by), by), x -> x.beginTake(by));
        }
    }

    private static void acceptedWhileOnlyTheOthersHaveOpenCalls() {
        for (int worker = 0; worker < 3; worker++) {
            int by = worker;
            Check.accepted("others open", () -> withOthersOpen(by), x -> x.beginTake(by));
        }
    }

    private static void refusedWhenEightCallsWereBegun() {
        for (int worker = 0; worker < 3; worker++) {
            int by = worker;
            Check.accepted("the eighth, ended ones before", () -> endedCalls(7), x -> x.beginTake(by));
            Check.refused("the ninth, ended ones before", () -> endedCalls(8), x -> x.beginTake(by));
            Check.accepted("the eighth, given up ones before", () -> givenUpCalls(7), x -> x.beginTake(by));
            Check.refused("the ninth, given up ones before", () -> givenUpCalls(8), x -> x.beginTake(by));
        }
        Check.accepted("the eighth, an open one before", () -> callsWithOneOpen(7), x -> x.beginTake(2));
        Check.refused("the ninth, an open one before", () -> callsWithOneOpen(8), x -> x.beginTake(2));
    }

    private static void refusedAlsoWhereTheRecordDoesNotFit() {
        Check.refused("no worker", BeginTakeTest::broken, x -> x.beginTake(-1));
        Check.refused("open call", BeginTakeTest::broken, x -> x.beginTake(2));
    }

    private static HandOffRecorder withOpenPut(int worker) {
        HandOffRecorder x = new HandOffRecorder(0, 3);
        Check.step(x.beginPut(worker, 1));
        return x;
    }

    private static HandOffRecorder withOpenTake(int worker) {
        HandOffRecorder x = new HandOffRecorder(0, 3);
        Check.step(x.beginTake(worker));
        return x;
    }

    private static HandOffRecorder ended(int worker) {
        HandOffRecorder x = withOpenTake(worker);
        Check.step(x.endTake(worker, -1));
        return x;
    }

    private static HandOffRecorder givenUp(HandOffRecorder x, int worker) {
        Check.step(x.giveUp(worker));
        return x;
    }

    private static HandOffRecorder withOthersOpen(int worker) {
        HandOffRecorder x = new HandOffRecorder(1, 3);
        Check.step(x.beginPut((worker + 1) % 3, 7));
        Check.step(x.beginTake((worker + 2) % 3));
        return x;
    }

    private static HandOffRecorder endedCalls(int count) {
        HandOffRecorder x = new HandOffRecorder(2, 8);
        for (int i = 0; i < count; i++) {
            Check.take(x, i % 3, -1);
        }
        return x;
    }

    private static HandOffRecorder givenUpCalls(int count) {
        HandOffRecorder x = new HandOffRecorder(2, 8);
        for (int i = 0; i < count; i++) {
            Check.step(x.beginTake(i % 3));
            Check.step(x.giveUp(i % 3));
        }
        return x;
    }

    private static HandOffRecorder callsWithOneOpen(int count) {
        HandOffRecorder x = endedCalls(count - 1);
        Check.step(x.beginPut(0, 9));
        return x;
    }

    private static HandOffRecorder broken() {
        HandOffRecorder x = withOpenPut(2);
        Check.take(x, 0, 5);
        Check.due("fits()", x.fits(), false);
        return x;
    }
}
