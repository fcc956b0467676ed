/** Promise 2: renew. */
public final class RenewTest {
    public static void main(String[] args) {
        recordIsThrownAway();
        openCallsAreForgotten();
        kindAndCapacityAreNew();
        wildArgumentsCountAsInTheConstructor();
        Check.end();
    }

    private static void recordIsThrownAway() {
        HandOffRecorder x = new HandOffRecorder(0, 3);
        for (int i = 0; i < 7; i++) {
            Check.take(x, 0, 4);
        }
        Check.step(x.beginPut(1, 3));
        Check.due("brokenAt()", x.brokenAt(), 2);
        x.renew(0, 3);
        Check.due("as new", Check.state(x).equals(Check.state(new HandOffRecorder(0, 3))), true);
        for (int i = 0; i < 8; i++) {
            Check.take(x, 1, -1);
        }
        Check.due("fits()", x.fits(), true);
        Check.due("begun()", x.begun(), 8);
    }

    private static void openCallsAreForgotten() {
        HandOffRecorder x = new HandOffRecorder(1, 3);
        Check.step(x.beginPut(0, 1));
        Check.step(x.beginTake(1));
        Check.step(x.beginTake(2));
        Check.step(x.giveUp(2));
        x.renew(1, 3);
        Check.due("endPut(0, true)", x.endPut(0, true), false);
        Check.due("endTake(1, -1)", x.endTake(1, -1), false);
        Check.due("giveUp(0)", x.giveUp(0), false);
        Check.step(x.beginPut(0, 1));
        Check.step(x.beginPut(1, 2));
        Check.step(x.beginPut(2, 3));
        Check.due("explanations()", x.explanations(), 16);
    }

    private static void kindAndCapacityAreNew() {
        HandOffRecorder x = new HandOffRecorder(2, 1);
        Check.due("shared row", x.beginPut(1, 5), false);
        x.renew(1, 2);
        Check.put(x, 1, 5, true);
        Check.put(x, 1, 6, true);
        Check.put(x, 1, 7, false);
        Check.take(x, 1, 6);
        Check.due("pile of two", x.fits(), true);
        x.renew(2, 2);
        Check.due("shared row again", x.beginPut(2, 5), false);
    }

    private static void wildArgumentsCountAsInTheConstructor() {
        HandOffRecorder x = new HandOffRecorder(2, 8);
        x.renew(-7, -7);
        Check.put(x, 1, 5, true);
        Check.put(x, 2, 6, false);
        Check.due("line of one", x.fits(), true);
        x.renew(3, 100);
        for (int i = 0; i < 6; i++) {
            Check.put(x, 0, i, true);
        }
        Check.take(x, 0, 0);
        Check.due("line of eight", x.fits(), true);
    }
}
