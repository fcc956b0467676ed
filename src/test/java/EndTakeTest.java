import java.util.function.Supplier;

/** Promise 6: endTake. */
public final class EndTakeTest {
    public static void main(String[] args) {
        isAnEventForEveryWorkerAndAnswer();
        answerIsTheValueTaken();
        minusOneMeansThatTheStoreWasEmpty();
        isAcceptedWhetherOrNotTheRecordFitsThen();
        refusedWhenWorkerIsNotZeroToTwo();
        refusedWhenValueIsNotMinusOneToFifteen();
        refusedWhenTheWorkerHasNoOpenTake();
        refusedWhenOnlyTheOthersHaveOpenTakes();
        refusedAlsoWhereTheRecordDoesNotFit();
        Check.end();
    }

    private static void isAnEventForEveryWorkerAndAnswer() {
        for (int worker = 0; worker < 3; worker++) {
            for (int value = -1; value <= 15; value++) {
                int by = worker;
                int got = value;
                Check.accepted("endTake(" + by + ", " + got + ")", EndTakeTest::withThreeOpenTakes,
                    x -> x.endTake(by, got));
            }
        }
    }

    /** A value that lies at either end of 0 .. 15 is told from every other answer. */
    private static void answerIsTheValueTaken() {
        for (int stored = 0; stored <= 15; stored++) {
            for (int value = -1; value <= 15; value++) {
                HandOffRecorder x = new HandOffRecorder(stored % 3, 2);
                Check.put(x, 0, stored, true);
                Check.take(x, 1, value);
                Check.due(stored + " put, " + value + " taken", x.fits(), value == stored);
            }
        }
    }

    private static void minusOneMeansThatTheStoreWasEmpty() {
        for (int value = -1; value <= 15; value++) {
            HandOffRecorder x = new HandOffRecorder(0, 2);
            Check.take(x, 2, value);
            Check.due(value + " taken of nothing", x.fits(), value == -1);
        }
    }

    private static void isAcceptedWhetherOrNotTheRecordFitsThen() {
        HandOffRecorder x = new HandOffRecorder(0, 2);
        Check.put(x, 0, 3, true);
        Check.step(x.beginTake(1));
        Check.due("breaks by -1", x.endTake(1, -1), true);
        Check.broken("after -1", x, 4);
        Check.step(x.beginTake(1));
        Check.due("in a broken record", x.endTake(1, 3), true);
        Check.due("events()", x.events(), 6);
        x.renew(2, 2);
        Check.step(x.beginTake(1));
        Check.due("breaks by 15", x.endTake(1, 15), true);
        Check.broken("after 15", x, 2);
    }

    private static void refusedWhenWorkerIsNotZeroToTwo() {
        for (int worker : Check.NO_WORKERS) {
            refusedWithEveryAnswer("endTake of worker " + worker, EndTakeTest::withThreeOpenTakes, worker);
        }
    }

    private static void refusedWhenValueIsNotMinusOneToFifteen() {
        int[] noAnswers = {Integer.MIN_VALUE, -2, 16, Integer.MAX_VALUE};
        for (int value : noAnswers) {
            for (int worker = 0; worker < 3; worker++) {
                int by = worker;
                Check.refused("endTake(" + by + ", " + value + ")", EndTakeTest::withThreeOpenTakes,
                    x -> x.endTake(by, value));
            }
        }
    }

    private static void refusedWhenTheWorkerHasNoOpenTake() {
        for (int worker = 0; worker < 3; worker++) {
            int by = worker;
            refusedWithEveryAnswer("endTake of a worker without a call", () -> new HandOffRecorder(0, 1), by);
            refusedWithEveryAnswer("endTake of an open put", () -> withOpenPut(by), by);
            refusedWithEveryAnswer("endTake of an ended take", () -> withEndedTake(by), by);
            refusedWithEveryAnswer("endTake of a given up take", () -> withGivenUpTake(by), by);
        }
    }

    private static void refusedWhenOnlyTheOthersHaveOpenTakes() {
        for (int worker = 0; worker < 3; worker++) {
            int by = worker;
            refusedWithEveryAnswer("endTake of an ended one among open ones", () -> endedAmongOpen(by), by);
        }
    }

    private static void refusedAlsoWhereTheRecordDoesNotFit() {
        Check.refused("no value", EndTakeTest::broken, x -> x.endTake(2, 16));
        Check.refused("no answer", EndTakeTest::broken, x -> x.endTake(2, -2));
        Check.refused("no worker", EndTakeTest::broken, x -> x.endTake(3, -1));
        Check.refused("no open call", EndTakeTest::broken, x -> x.endTake(0, -1));
        Check.refused("an open put", EndTakeTest::broken, x -> x.endTake(1, -1));
    }

    private static void refusedWithEveryAnswer(String call, Supplier<HandOffRecorder> before, int worker) {
        int[] answers = {-1, 0, 1, 15};
        for (int value : answers) {
            Check.refused(call + " with " + value, before, x -> x.endTake(worker, value));
        }
    }

    private static HandOffRecorder withThreeOpenTakes() {
        HandOffRecorder x = new HandOffRecorder(0, 4);
        Check.put(x, 0, 15, true);
        Check.put(x, 0, 0, true);
        for (int worker = 0; worker < 3; worker++) {
            Check.step(x.beginTake(worker));
        }
        return x;
    }

    private static HandOffRecorder withOpenPut(int worker) {
        HandOffRecorder x = new HandOffRecorder(0, 2);
        Check.step(x.beginPut(worker, 1));
        return x;
    }

    private static HandOffRecorder withEndedTake(int worker) {
        HandOffRecorder x = new HandOffRecorder(1, 2);
        Check.put(x, worker, 1, true);
        Check.put(x, worker, 0, true);
        Check.take(x, worker, 0);
        return x;
    }

    private static HandOffRecorder withGivenUpTake(int worker) {
        HandOffRecorder x = new HandOffRecorder(2, 2);
        Check.step(x.beginTake(worker));
        Check.step(x.giveUp(worker));
        return x;
    }

    private static HandOffRecorder endedAmongOpen(int worker) {
        HandOffRecorder x = withThreeOpenTakes();
        Check.step(x.endTake(worker, 15));
        return x;
    }

    private static HandOffRecorder broken() {
        HandOffRecorder x = new HandOffRecorder(1, 2);
        Check.put(x, 0, 3, false);
        Check.step(x.beginPut(1, 3));
        Check.step(x.beginTake(2));
        Check.due("fits()", x.fits(), false);
        return x;
    }
}
