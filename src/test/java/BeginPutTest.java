/** Promise 3: beginPut. */
public final class BeginPutTest {
    public static void main(String[] args) {
        isAnEventForEveryWorkerAndValue();
        isAcceptedWhereTheRecordDoesNotFit();
        refusedWhenWorkerIsNotZeroToTwo();
        refusedWhenValueIsNotZeroToFifteen();
        refusedWhileTheWorkerHasAnOpenCall();
        acceptedOnceTheCallIsEndedOrGivenUp();
        acceptedWhileOnlyTheOthersHaveOpenCalls();
        refusedWhenEightCallsWereBegun();
        refusedInASharedRowUnlessWorkerIsZero();
        refusedAlsoWhereTheRecordDoesNotFit();
        Check.end();
    }

    private static void isAnEventForEveryWorkerAndValue() {
        for (int kind = 0; kind <= 2; kind++) {
            for (int worker = 0; worker <= (kind == 2 ? 0 : 2); worker++) {
                for (int value = 0; value <= 15; value++) {
                    beginsAPut(new HandOffRecorder(kind, 1), worker, value);
                }
            }
        }
    }

    private static void beginsAPut(HandOffRecorder x, int worker, int value) {
        Check.due("beginPut(" + worker + ", " + value + ")", x.beginPut(worker, value), true);
        Check.due("events()", x.events(), 1);
        Check.due("begun()", x.begun(), 1);
        Check.due("explanations()", x.explanations(), 2);
        for (int held = 0; held <= 15; held++) {
            Check.due("mayHold(0, " + held + ")", x.mayHold(0, held), held == value);
        }
        Check.due("it is a put", x.endTake(worker, value), false);
        Check.due("it is open", x.endPut(worker, true), true);
    }

    private static void isAcceptedWhereTheRecordDoesNotFit() {
        Check.accepted("beginPut(1, 15)", BeginPutTest::broken, x -> x.beginPut(1, 15));
    }

    private static void refusedWhenWorkerIsNotZeroToTwo() {
        for (int worker : Check.NO_WORKERS) {
            String call = "beginPut(" + worker + ", 1)";
            Check.refused(call, BeginPutTest::unused, x -> x.beginPut(worker, 1));
            Check.refused(call, BeginPutTest::withOneOpenTake, x -> x.beginPut(worker, 1));
        }
    }

    private static void refusedWhenValueIsNotZeroToFifteen() {
        for (int value : Check.NO_VALUES) {
            for (int worker = 0; worker < 3; worker++) {
                int by = worker;
                Check.refused("beginPut(" + by + ", " + value + ")", BeginPutTest::unused, x -> x.beginPut(by, value));
            }
            Check.refused("owner, value " + value, BeginPutTest::sharedRow, x -> x.beginPut(0, value));
        }
    }

    private static void refusedWhileTheWorkerHasAnOpenCall() {
        for (int worker = 0; worker < 3; worker++) {
            int by = worker;
            Check.refused("beginPut on an open put", () -> withOpenPut(by), x -> x.beginPut(by, 2));
            Check.refused("the same beginPut again", () -> withOpenPut(by), x -> x.beginPut(by, 1));
            Check.refused("beginPut on an open take", () -> withOpenTake(by), x -> x.beginPut(by, 2));
        }
    }

    private static void acceptedOnceTheCallIsEndedOrGivenUp() {
        for (int worker = 0; worker < 3; worker++) {
            int by = worker;
            Check.accepted("after an ended put", () -> ended(by), x -> x.beginPut(by, 1));
            Check.accepted("after a given up put", () -> givenUp(withOpenPut(by), by), x -> x.beginPut(by, 1));
            Check.accepted("after a given up take", () -> givenUp(withOpenTake(by), by), x -> x.beginPut(by, 1));
        }
    }

    private static void acceptedWhileOnlyTheOthersHaveOpenCalls() {
        for (int worker = 0; worker < 3; worker++) {
            int by = worker;
            Check.accepted("others open", () -> withOthersOpen(by), x -> x.beginPut(by, 1));
        }
    }

    private static void refusedWhenEightCallsWereBegun() {
        for (int worker = 0; worker < 3; worker++) {
            int by = worker;
            Check.accepted("the eighth, ended ones before", () -> endedCalls(7), x -> x.beginPut(by, 1));
            Check.refused("the ninth, ended ones before", () -> endedCalls(8), x -> x.beginPut(by, 1));
            Check.accepted("the eighth, given up ones before", () -> givenUpCalls(7), x -> x.beginPut(by, 1));
            Check.refused("the ninth, given up ones before", () -> givenUpCalls(8), x -> x.beginPut(by, 1));
        }
        Check.accepted("the eighth, an open one before", () -> callsWithOneOpen(7), x -> x.beginPut(1, 1));
        Check.refused("the ninth, an open one before", () -> callsWithOneOpen(8), x -> x.beginPut(1, 1));
    }

    private static void refusedInASharedRowUnlessWorkerIsZero() {
        Check.refused("beginPut(1, 4)", BeginPutTest::sharedRow, x -> x.beginPut(1, 4));
        Check.refused("beginPut(2, 4)", BeginPutTest::sharedRow, x -> x.beginPut(2, 4));
        Check.accepted("beginPut(0, 4)", BeginPutTest::sharedRow, x -> x.beginPut(0, 4));
    }

    private static void refusedAlsoWhereTheRecordDoesNotFit() {
        Check.refused("no worker", BeginPutTest::broken, x -> x.beginPut(3, 1));
        Check.refused("no value", BeginPutTest::broken, x -> x.beginPut(0, 16));
        Check.refused("open call", BeginPutTest::broken, x -> x.beginPut(2, 1));
    }

    private static HandOffRecorder unused() {
        return new HandOffRecorder(0, 3);
    }

    private static HandOffRecorder sharedRow() {
        return new HandOffRecorder(2, 3);
    }

    private static HandOffRecorder withOneOpenTake() {
        return withOpenTake(2);
    }

    private static HandOffRecorder withOpenPut(int worker) {
        HandOffRecorder x = unused();
        Check.step(x.beginPut(worker, 1));
        return x;
    }

    private static HandOffRecorder withOpenTake(int worker) {
        HandOffRecorder x = unused();
        Check.step(x.beginTake(worker));
        return x;
    }

    private static HandOffRecorder ended(int worker) {
        HandOffRecorder x = withOpenPut(worker);
        Check.step(x.endPut(worker, true));
        return x;
    }

    private static HandOffRecorder givenUp(HandOffRecorder x, int worker) {
        Check.step(x.giveUp(worker));
        return x;
    }

    private static HandOffRecorder withOthersOpen(int worker) {
        HandOffRecorder x = unused();
        Check.step(x.beginPut((worker + 1) % 3, 7));
        Check.step(x.beginTake((worker + 2) % 3));
        return x;
    }

    private static HandOffRecorder endedCalls(int count) {
        HandOffRecorder x = new HandOffRecorder(1, 8);
        for (int i = 0; i < count; i++) {
            Check.put(x, i % 3, i, true);
        }
        return x;
    }

    private static HandOffRecorder givenUpCalls(int count) {
        HandOffRecorder x = new HandOffRecorder(1, 8);
        for (int i = 0; i < count; i++) {
            Check.step(x.beginPut(i % 3, i));
            Check.step(x.giveUp(i % 3));
        }
        return x;
    }

    private static HandOffRecorder callsWithOneOpen(int count) {
        HandOffRecorder x = endedCalls(count - 1);
        Check.step(x.beginPut(0, 9));
        return x;
    }

    private static HandOffRecorder broken() {
        HandOffRecorder x = unused();
        Check.step(x.beginTake(2));
        Check.take(x, 0, 5);
        Check.due("fits()", x.fits(), false);
        return x;
    }
}
