/** Promise 9: begun. */
public final class BegunTest {
    public static void main(String[] args) {
        endedAndGivenUpCallsCount();
        refusedCallsDoNotCount();
        Check.end();
    }

    private static void endedAndGivenUpCallsCount() {
        HandOffRecorder x = new HandOffRecorder(0, 2);
        Check.due("new", x.begun(), 0);
        Check.put(x, 0, 1, true);
        Check.due("after an ended put", x.begun(), 1);
        Check.step(x.beginTake(1));
        Check.due("with an open take", x.begun(), 2);
        Check.step(x.giveUp(1));
        Check.due("after giving up", x.begun(), 2);
        Check.step(x.beginTake(1));
        Check.due("begun again", x.begun(), 3);
        x.renew(0, 2);
        Check.due("after renew", x.begun(), 0);
    }

    private static void refusedCallsDoNotCount() {
        HandOffRecorder x = new HandOffRecorder(2, 2);
        x.beginPut(1, 1);
        x.beginPut(0, 16);
        x.beginTake(-1);
        Check.due("refused", x.begun(), 0);
        for (int i = 0; i < 10; i++) {
            x.beginTake(0);
            x.giveUp(0);
        }
        Check.due("ten tried", x.begun(), 8);
    }
}
