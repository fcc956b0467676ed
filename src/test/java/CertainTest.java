/** Promise 17: certain. */
public final class CertainTest {
    public static void main(String[] args) {
        falseForTheEmptyRecord();
        trueForEveryWorkerWhoseCallIsInEveryExplanation();
        falseWhenOneExplanationHasItNot();
        oneOfTwoIsNotCertain();
        takeMayBeCertain();
        falseWhenWorkerIsNotZeroToTwo();
        falseWithoutAnOpenCall();
        falseWhenItDoesNotFit();
        Check.end();
    }

    private static void falseForTheEmptyRecord() {
        HandOffRecorder x = new HandOffRecorder(0, 2);
        for (int worker = -1; worker <= 3; worker++) {
            Check.due("certain(" + worker + ")", x.certain(worker), false);
        }
    }

    private static void trueForEveryWorkerWhoseCallIsInEveryExplanation() {
        for (int worker = 0; worker < 3; worker++) {
            HandOffRecorder x = new HandOffRecorder(0, 2);
            Check.step(x.beginPut(worker, 8));
            Check.due("not yet", x.certain(worker), false);
            Check.take(x, (worker + 1) % 3, 8);
            Check.due("its value was taken", x.certain(worker), true);
            Check.step(x.beginTake((worker + 1) % 3));
            Check.due("still", x.certain(worker), true);
            Check.due("a new call", x.certain((worker + 1) % 3), false);
        }
    }

    /** The take found nothing, so the put came behind it or not at all. */
    private static void falseWhenOneExplanationHasItNot() {
        HandOffRecorder x = new HandOffRecorder(1, 2);
        Check.step(x.beginPut(0, 3));
        Check.take(x, 1, -1);
        Check.due("explanations()", x.explanations(), 2);
        Check.due("with and without", x.certain(0), false);
    }

    private static void oneOfTwoIsNotCertain() {
        HandOffRecorder x = new HandOffRecorder(1, 2);
        Check.step(x.beginPut(1, 8));
        Check.step(x.beginPut(2, 8));
        Check.take(x, 0, 8);
        Check.due("either may have put it", x.certain(1), false);
        Check.due("either may have put it", x.certain(2), false);
        Check.take(x, 0, 8);
        Check.due("both have", x.certain(1), true);
        Check.due("both have", x.certain(2), true);
    }

    private static void takeMayBeCertain() {
        HandOffRecorder x = new HandOffRecorder(2, 1);
        Check.put(x, 0, 8, true);
        Check.step(x.beginTake(2));
        Check.step(x.beginTake(1));
        Check.put(x, 0, 9, true);
        Check.due("either may have made room", x.certain(1), false);
        Check.step(x.giveUp(1));
        Check.due("it has made room", x.certain(2), true);
    }

    private static void falseWhenWorkerIsNotZeroToTwo() {
        HandOffRecorder x = new HandOffRecorder(0, 8);
        Check.step(x.beginPut(0, 8));
        Check.step(x.beginPut(2, 8));
        Check.take(x, 1, 8);
        Check.take(x, 1, 8);
        Check.due("certain(0)", x.certain(0), true);
        Check.due("certain(2)", x.certain(2), true);
        for (int worker : Check.NO_WORKERS) {
            Check.due("certain(" + worker + ")", x.certain(worker), false);
        }
    }

    private static void falseWithoutAnOpenCall() {
        HandOffRecorder x = new HandOffRecorder(2, 2);
        Check.step(x.beginPut(0, 8));
        Check.take(x, 1, 8);
        Check.due("ended take", x.certain(1), false);
        Check.due("none begun", x.certain(2), false);
        Check.due("open", x.certain(0), true);
        Check.step(x.endPut(0, true));
        Check.due("ended put", x.certain(0), false);
        Check.step(x.beginTake(2));
        Check.step(x.giveUp(2));
        Check.due("given up", x.certain(2), false);
    }

    private static void falseWhenItDoesNotFit() {
        HandOffRecorder x = new HandOffRecorder(0, 2);
        Check.step(x.beginPut(1, 8));
        Check.take(x, 0, 8);
        Check.due("fits", x.certain(1), true);
        Check.take(x, 0, 8);
        Check.due("broken", x.certain(1), false);
        Check.step(x.beginTake(0));
        Check.due("still broken", x.certain(0), false);
        x.renew(0, 2);
        Check.due("after renew", x.certain(1), false);
    }
}
