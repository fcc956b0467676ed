/** Promise 6: endTake. */
public final class EndTakeTest {
    public static void main(String[] args) {
        endsWithAValueOrEmpty();
        isAcceptedWhereTheRecordDoesNotFit();
        refusesWrongArguments();
        refusesWhatIsNoOpenTake();
        Check.end();
    }

    private static void endsWithAValueOrEmpty() {
        HandOffRecorder x = new HandOffRecorder(1, 2);
        Check.put(x, 0, 0, true);
        Check.put(x, 0, 15, true);
        Check.step(x.beginTake(0));
        Check.due("endTake(0, 15)", x.endTake(0, 15), true);
        Check.step(x.beginTake(1));
        Check.due("endTake(1, 0)", x.endTake(1, 0), true);
        Check.step(x.beginTake(2));
        Check.due("endTake(2, -1)", x.endTake(2, -1), true);
        Check.due("fits()", x.fits(), true);
        Check.due("events()", x.events(), 10);
        Check.due("most()", x.most(), 0);
    }

    private static void isAcceptedWhereTheRecordDoesNotFit() {
        HandOffRecorder x = new HandOffRecorder(0, 2);
        Check.put(x, 0, 3, true);
        Check.step(x.beginTake(1));
        Check.due("endTake(1, -1)", x.endTake(1, -1), true);
        Check.due("fits()", x.fits(), false);
        Check.step(x.beginTake(1));
        Check.due("endTake(1, 3)", x.endTake(1, 3), true);
        Check.due("events()", x.events(), 6);
    }

    private static void refusesWrongArguments() {
        HandOffRecorder x = new HandOffRecorder(2, 2);
        Check.step(x.beginTake(1));
        String before = Check.state(x);
        int[] noValues = {-2, 16, Integer.MIN_VALUE, Integer.MAX_VALUE};
        for (int value : noValues) {
            Check.refused("endTake(1, " + value + ")", x.endTake(1, value), x, before);
        }
        int[] noWorkers = {-1, 3, Integer.MIN_VALUE, Integer.MAX_VALUE};
        for (int worker : noWorkers) {
            Check.refused("endTake(" + worker + ", -1)", x.endTake(worker, -1), x, before);
        }
    }

    private static void refusesWhatIsNoOpenTake() {
        HandOffRecorder x = new HandOffRecorder(0, 2);
        Check.take(x, 2, -1);
        Check.step(x.beginPut(0, 1));
        Check.step(x.beginTake(1));
        Check.step(x.giveUp(1));
        String before = Check.state(x);
        for (int worker = 0; worker < 3; worker++) {
            Check.refused("endTake(" + worker + ", 1)", x.endTake(worker, 1), x, before);
            Check.refused("endTake(" + worker + ", -1)", x.endTake(worker, -1), x, before);
        }
    }
}
