/** Promise 3: beginPut. */
public final class BeginPutTest {
    public static void main(String[] args) {
        acceptsEveryWorkerAndEdgeValue();
        refusesWrongArguments();
        refusesWhileACallIsOpen();
        refusesTheNinthCall();
        sharedRowTakesPutsOfItsOwnerAlone();
        Check.end();
    }

    private static void acceptsEveryWorkerAndEdgeValue() {
        for (int kind = 0; kind < 2; kind++) {
            HandOffRecorder x = new HandOffRecorder(kind, 3);
            Check.due("beginPut(0, 0)", x.beginPut(0, 0), true);
            Check.due("beginPut(1, 15)", x.beginPut(1, 15), true);
            Check.due("beginPut(2, 7)", x.beginPut(2, 7), true);
            Check.due("events()", x.events(), 3);
            Check.due("begun()", x.begun(), 3);
            Check.due("mayHold(0, 0)", x.mayHold(0, 0), true);
            Check.due("mayHold(1, 15)", x.mayHold(1, 15), true);
            Check.due("mayHold(2, 7)", x.mayHold(2, 7), true);
        }
    }

    private static void refusesWrongArguments() {
        int[] noWorkers = {-1, 3, Integer.MIN_VALUE, Integer.MAX_VALUE};
        int[] noValues = {-1, 16, Integer.MIN_VALUE, Integer.MAX_VALUE};
        HandOffRecorder x = new HandOffRecorder(0, 3);
        Check.step(x.beginTake(2));
        String before = Check.state(x);
        for (int worker : noWorkers) {
            Check.refused("beginPut(" + worker + ", 1)", x.beginPut(worker, 1), x, before);
        }
        for (int value : noValues) {
            Check.refused("beginPut(0, " + value + ")", x.beginPut(0, value), x, before);
        }
    }

    private static void refusesWhileACallIsOpen() {
        HandOffRecorder x = new HandOffRecorder(0, 3);
        Check.step(x.beginPut(0, 1));
        Check.step(x.beginTake(1));
        String before = Check.state(x);
        Check.refused("beginPut(0, 2)", x.beginPut(0, 2), x, before);
        Check.refused("beginPut(1, 2)", x.beginPut(1, 2), x, before);
        Check.step(x.endPut(0, true));
        Check.due("beginPut after the end", x.beginPut(0, 2), true);
        Check.step(x.giveUp(1));
        Check.due("beginPut after giving up", x.beginPut(1, 2), true);
    }

    private static void refusesTheNinthCall() {
        HandOffRecorder x = new HandOffRecorder(1, 8);
        for (int i = 0; i < 3; i++) {
            Check.put(x, 0, i, true);
            Check.step(x.beginPut(1, 9));
            Check.step(x.giveUp(1));
        }
        Check.put(x, 2, 3, true);
        Check.due("the eighth", x.beginPut(0, 4), true);
        Check.refused("the ninth", x.beginPut(1, 5), x, Check.state(x));
        Check.step(x.giveUp(0));
        Check.refused("still the ninth", x.beginPut(0, 5), x, Check.state(x));
    }

    private static void sharedRowTakesPutsOfItsOwnerAlone() {
        HandOffRecorder x = new HandOffRecorder(2, 3);
        String before = Check.state(x);
        Check.refused("beginPut(1, 4)", x.beginPut(1, 4), x, before);
        Check.refused("beginPut(2, 4)", x.beginPut(2, 4), x, before);
        Check.due("beginPut(0, 4)", x.beginPut(0, 4), true);
    }
}
