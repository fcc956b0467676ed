/** Promise 18: answers. */
public final class AnswersTest {
    public static void main(String[] args) {
        putGetsOneOrTwo();
        takeGetsEmptyAndValues();
        likeAnswersCountOnce();
        wrongWorkersAndClosedCalls();
        isZeroWhenItDoesNotFit();
        Check.end();
    }

    private static void putGetsOneOrTwo() {
        HandOffRecorder x = new HandOffRecorder(0, 1);
        Check.step(x.beginPut(0, 1));
        Check.due("stored", x.answers(0), 1);
        Check.step(x.beginPut(1, 2));
        Check.due("stored or not", x.answers(0), 2);
        Check.due("stored or not", x.answers(1), 2);
        Check.step(x.endPut(1, true));
        Check.due("not stored, for the other one was", x.answers(0), 1);
        Check.step(x.endPut(0, false));
        Check.step(x.beginPut(0, 3));
        Check.due("not stored in a full store", x.answers(0), 1);
        Check.step(x.beginTake(1));
        Check.due("stored if it was emptied first", x.answers(0), 2);
    }

    private static void takeGetsEmptyAndValues() {
        HandOffRecorder x = new HandOffRecorder(1, 8);
        Check.step(x.beginTake(0));
        Check.due("empty", x.answers(0), 1);
        Check.step(x.beginPut(1, 0));
        Check.due("empty or 0", x.answers(0), 2);
        Check.step(x.beginPut(2, 15));
        Check.due("empty, 0 or 15", x.answers(0), 3);
        Check.step(x.endPut(1, true));
        Check.step(x.endPut(2, true));
        Check.due("empty, 0 or 15", x.answers(0), 3);
        Check.step(x.beginTake(1));
        Check.due("begun when both were stored", x.answers(1), 2);
    }

    private static void likeAnswersCountOnce() {
        HandOffRecorder x = new HandOffRecorder(0, 8);
        Check.put(x, 0, 7, true);
        Check.put(x, 0, 7, true);
        Check.step(x.beginTake(1));
        Check.step(x.beginTake(2));
        Check.due("seven either way", x.answers(1), 1);
    }

    private static void wrongWorkersAndClosedCalls() {
        HandOffRecorder x = new HandOffRecorder(2, 8);
        Check.take(x, 1, -1);
        Check.step(x.beginTake(2));
        Check.step(x.giveUp(2));
        Check.step(x.beginPut(0, 1));
        int[] others = {-1, 3, Integer.MIN_VALUE, Integer.MAX_VALUE, 1, 2};
        for (int worker : others) {
            Check.due("answers(" + worker + ")", x.answers(worker), 0);
        }
        Check.due("answers(0)", x.answers(0), 1);
        Check.step(x.endPut(0, true));
        Check.due("ended", x.answers(0), 0);
    }

    private static void isZeroWhenItDoesNotFit() {
        HandOffRecorder x = new HandOffRecorder(0, 8);
        Check.step(x.beginTake(0));
        Check.step(x.beginPut(1, 4));
        Check.take(x, 2, 9);
        Check.due("broken", x.answers(0), 0);
        Check.due("broken", x.answers(1), 0);
    }
}
