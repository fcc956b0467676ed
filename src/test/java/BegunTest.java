/** Promise 9: begun. */
public final class BegunTest {
    public static void main(String[] args) {
        isZeroForTheEmptyRecord();
        endedAndGivenUpCallsCount();
        refusedCallsDoNotCount();
        countsUpToEight();
        countsOnWhereTheRecordDoesNotFit();
        isZeroAfterRenew();
        Check.end();
    }

    private static void isZeroForTheEmptyRecord() {
        Check.due("new", new HandOffRecorder(2, 8).begun(), 0);
    }

    private static void endedAndGivenUpCallsCount() {
        HandOffRecorder x = new HandOffRecorder(0, 2);
        Check.step(x.beginPut(0, 1));
        Check.due("with an open put", x.begun(), 1);
        Check.step(x.endPut(0, true));
        Check.due("after its end", x.begun(), 1);
        Check.step(x.beginTake(1));
        Check.due("with an open take", x.begun(), 2);
        Check.step(x.giveUp(1));
        Check.due("after giving up", x.begun(), 2);
        Check.take(x, 1, 1);
        Check.due("begun again and ended", x.begun(), 3);
    }

    private static void refusedCallsDoNotCount() {
        HandOffRecorder x = new HandOffRecorder(2, 2);
        Check.due("not the owner", x.beginPut(1, 1), false);
        Check.due("no value", x.beginPut(0, 16), false);
        Check.due("no worker", x.beginTake(-1), false);
        Check.due("refused", x.begun(), 0);
        Check.step(x.beginTake(0));
        Check.due("open call", x.beginTake(0), false);
        Check.due("refused", x.begun(), 1);
    }

    private static void countsUpToEight() {
        HandOffRecorder x = new HandOffRecorder(2, 2);
        for (int i = 0; i < 8; i++) {
            Check.step(x.beginTake(0));
            Check.due("begun()", x.begun(), i + 1);
            Check.step(x.giveUp(0));
        }
        Check.due("the ninth", x.beginTake(0), false);
        Check.due("begun()", x.begun(), 8);
    }

    private static void countsOnWhereTheRecordDoesNotFit() {
        HandOffRecorder x = new HandOffRecorder(1, 2);
        Check.take(x, 0, 0);
        Check.step(x.beginPut(1, 2));
        Check.step(x.beginTake(2));
        Check.due("fits()", x.fits(), false);
        Check.due("begun()", x.begun(), 3);
    }

    private static void isZeroAfterRenew() {
        HandOffRecorder x = new HandOffRecorder(0, 2);
        Check.take(x, 0, -1);
        Check.step(x.beginTake(1));
        x.renew(0, 2);
        Check.due("after renew", x.begun(), 0);
        Check.step(x.beginPut(1, 1));
        Check.due("the first again", x.begun(), 1);
    }
}
