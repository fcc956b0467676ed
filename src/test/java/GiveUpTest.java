/** Promise 7: giveUp. */
public final class GiveUpTest {
    public static void main(String[] args) {
        isAnEventForEveryWorkerAndSortOfCall();
        givenUpCallStandsInNoExplanation();
        isAcceptedWhetherOrNotTheRecordFitsThen();
        refusedWhenWorkerIsNotZeroToTwo();
        refusedWhenTheWorkerHasNoOpenCall();
        refusedWhenOnlyTheOthersHaveOpenCalls();
        refusedAlsoWhereTheRecordDoesNotFit();
        Check.end();
    }

    private static void isAnEventForEveryWorkerAndSortOfCall() {
        for (int worker = 0; worker < 3; worker++) {
            int by = worker;
            Check.accepted("giveUp of a put", GiveUpTest::withThreeOpenPuts, x -> x.giveUp(by));
            Check.accepted("giveUp of a take", GiveUpTest::withThreeOpenTakes, x -> x.giveUp(by));
        }
    }

    private static void givenUpCallStandsInNoExplanation() {
        HandOffRecorder x = new HandOffRecorder(0, 3);
        Check.step(x.beginPut(0, 1));
        Check.step(x.beginPut(1, 2));
        Check.step(x.beginTake(2));
        Check.step(x.giveUp(1));
        Check.due("mayHold(0, 2)", x.mayHold(0, 2), false);
        Check.due("explanations()", x.explanations(), 5);
        Check.step(x.giveUp(2));
        Check.due("explanations()", x.explanations(), 2);
        Check.step(x.giveUp(0));
        Check.due("explanations()", x.explanations(), 1);
        Check.due("most()", x.most(), 0);
        Check.due("events()", x.events(), 6);
        Check.due("begun()", x.begun(), 3);
    }

    private static void isAcceptedWhetherOrNotTheRecordFitsThen() {
        HandOffRecorder x = new HandOffRecorder(1, 1);
        Check.step(x.beginPut(1, 3));
        Check.take(x, 0, 3);
        Check.due("fits()", x.fits(), true);
        Check.due("breaks", x.giveUp(1), true);
        Check.broken("given up", x, 4);
        Check.step(x.beginTake(1));
        Check.due("in a broken record", x.giveUp(1), true);
        Check.due("events()", x.events(), 6);
    }

    private static void refusedWhenWorkerIsNotZeroToTwo() {
        for (int worker : Check.NO_WORKERS) {
            Check.refused("giveUp(" + worker + ")", GiveUpTest::withThreeOpenPuts, x -> x.giveUp(worker));
            Check.refused("giveUp(" + worker + ")", GiveUpTest::withThreeOpenTakes, x -> x.giveUp(worker));
        }
    }

    private static void refusedWhenTheWorkerHasNoOpenCall() {
        for (int worker = 0; worker < 3; worker++) {
            int by = worker;
            Check.refused("giveUp without a call", () -> new HandOffRecorder(2, 1), x -> x.giveUp(by));
            Check.refused("giveUp of an ended put", () -> withEndedPut(by), x -> x.giveUp(by));
            Check.refused("giveUp of an ended take", () -> withEndedTake(by), x -> x.giveUp(by));
            Check.refused("giveUp of a given up call", () -> withGivenUpCall(by), x -> x.giveUp(by));
        }
    }

    private static void refusedWhenOnlyTheOthersHaveOpenCalls() {
        for (int worker = 0; worker < 3; worker++) {
            int by = worker;
            Check.refused("giveUp of a given up one among open ones", () -> givenUpAmongOpen(by), x -> x.giveUp(by));
        }
    }

    private static void refusedAlsoWhereTheRecordDoesNotFit() {
        for (int worker = -1; worker <= 3; worker++) {
            int by = worker;
            Check.refused("giveUp(" + by + ") in a broken record", GiveUpTest::broken, x -> x.giveUp(by));
        }
    }

    private static HandOffRecorder withThreeOpenPuts() {
        HandOffRecorder x = new HandOffRecorder(0, 2);
        for (int worker = 0; worker < 3; worker++) {
            Check.step(x.beginPut(worker, 4 + worker));
        }
        return x;
    }

    private static HandOffRecorder withThreeOpenTakes() {
        HandOffRecorder x = new HandOffRecorder(2, 2);
        Check.put(x, 0, 7, true);
        Check.put(x, 0, 8, true);
        for (int worker = 0; worker < 3; worker++) {
            Check.step(x.beginTake(worker));
        }
        return x;
    }

    private static HandOffRecorder withEndedPut(int worker) {
        HandOffRecorder x = new HandOffRecorder(0, 1);
        Check.put(x, worker, 3, true);
        return x;
    }

    private static HandOffRecorder withEndedTake(int worker) {
        HandOffRecorder x = new HandOffRecorder(0, 1);
        Check.take(x, worker, -1);
        return x;
    }

    private static HandOffRecorder withGivenUpCall(int worker) {
        HandOffRecorder x = new HandOffRecorder(1, 1);
        Check.step(x.beginPut(worker, 2));
        Check.step(x.giveUp(worker));
        return x;
    }

    private static HandOffRecorder givenUpAmongOpen(int worker) {
        HandOffRecorder x = withThreeOpenPuts();
        Check.step(x.giveUp(worker));
        return x;
    }

    private static HandOffRecorder broken() {
        HandOffRecorder x = new HandOffRecorder(0, 1);
        Check.take(x, 0, 3);
        Check.step(x.beginTake(1));
        Check.step(x.giveUp(1));
        Check.due("fits()", x.fits(), false);
        return x;
    }
}
