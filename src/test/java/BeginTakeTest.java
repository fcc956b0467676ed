/** Promise 4: beginTake. */
public final class BeginTakeTest {
    public static void main(String[] args) {
        acceptsEveryWorkerOfEveryKind();
        refusesWrongWorkers();
        refusesWhileACallIsOpen();
        refusesTheNinthCall();
        Check.end();
    }

    private static void acceptsEveryWorkerOfEveryKind() {
        for (int kind = 0; kind < 3; kind++) {
            HandOffRecorder x = new HandOffRecorder(kind, 3);
            for (int worker = 0; worker < 3; worker++) {
                Check.due("beginTake(" + worker + ")", x.beginTake(worker), true);
                Check.due("answers(" + worker + ")", x.answers(worker), 1);
            }
            Check.due("events()", x.events(), 3);
            Check.due("begun()", x.begun(), 3);
        }
    }

    private static void refusesWrongWorkers() {
        int[] noWorkers = {-1, 3, Integer.MIN_VALUE, Integer.MAX_VALUE};
        HandOffRecorder x = new HandOffRecorder(2, 3);
        Check.step(x.beginPut(0, 2));
        String before = Check.state(x);
        for (int worker : noWorkers) {
            Check.refused("beginTake(" + worker + ")", x.beginTake(worker), x, before);
        }
    }

    private static void refusesWhileACallIsOpen() {
        HandOffRecorder x = new HandOffRecorder(0, 3);
        Check.step(x.beginPut(0, 1));
        Check.step(x.beginTake(1));
        String before = Check.state(x);
        Check.refused("beginTake(0)", x.beginTake(0), x, before);
        Check.refused("beginTake(1)", x.beginTake(1), x, before);
        Check.step(x.endTake(1, -1));
        Check.due("beginTake after the end", x.beginTake(1), true);
        Check.step(x.giveUp(0));
        Check.due("beginTake after giving up", x.beginTake(0), true);
    }

    private static void refusesTheNinthCall() {
        HandOffRecorder x = new HandOffRecorder(2, 8);
        for (int i = 0; i < 7; i++) {
            Check.take(x, i % 3, -1);
        }
        Check.due("the eighth", x.beginTake(1), true);
        Check.refused("the ninth", x.beginTake(2), x, Check.state(x));
        Check.step(x.giveUp(1));
        Check.refused("still the ninth", x.beginTake(1), x, Check.state(x));
    }
}
