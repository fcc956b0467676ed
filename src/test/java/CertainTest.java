/** Promise 17: certain. */
public final class CertainTest {
    public static void main(String[] args) {
        isTrueWhereEveryExplanationHasTheCall();
        oneOfTwoIsNotCertain();
        wrongWorkersAndClosedCalls();
        isFalseWhenItDoesNotFit();
        Check.end();
    }

    private static void isTrueWhereEveryExplanationHasTheCall() {
        HandOffRecorder x = new HandOffRecorder(0, 2);
        Check.step(x.beginPut(1, 8));
        Check.step(x.beginPut(2, 9));
        Check.due("not yet", x.certain(1), false);
        Check.take(x, 0, 8);
        Check.due("its value was taken", x.certain(1), true);
        Check.due("the other", x.certain(2), false);
        Check.step(x.beginTake(0));
        Check.due("a new call", x.certain(0), false);
    }

    private static void oneOfTwoIsNotCertain() {
        HandOffRecorder x = new HandOffRecorder(1, 2);
        Check.step(x.beginPut(1, 8));
        Check.step(x.beginPut(2, 8));
        Check.take(x, 0, 8);
        Check.due("either may have put it", x.certain(1), false);
        Check.due("either may have put it", x.certain(2), false);
        Check.take(x, 0, 8);
        Check.due("both have", x.certain(1), true);
        Check.due("both have", x.certain(2), true);
    }

    private static void wrongWorkersAndClosedCalls() {
        HandOffRecorder x = new HandOffRecorder(2, 2);
        Check.step(x.beginPut(0, 8));
        Check.take(x, 1, 8);
        Check.due("open", x.certain(0), true);
        int[] others = {-1, 3, Integer.MIN_VALUE, Integer.MAX_VALUE, 1, 2};
        for (int worker : others) {
            Check.due("certain(" + worker + ")", x.certain(worker), false);
        }
        Check.step(x.endPut(0, true));
        Check.due("ended", x.certain(0), false);
        x.renew(2, 2);
        Check.step(x.beginTake(1));
        Check.step(x.giveUp(1));
        Check.due("given up", x.certain(1), false);
    }

    private static void isFalseWhenItDoesNotFit() {
        HandOffRecorder x = new HandOffRecorder(0, 2);
        Check.step(x.beginPut(1, 8));
        Check.take(x, 0, 8);
        Check.take(x, 0, 8);
        Check.due("broken", x.certain(1), false);
    }
}
