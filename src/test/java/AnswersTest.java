/** Promise 18: answers. */
public final class AnswersTest {
    public static void main(String[] args) {
        putGetsOneOrTwo();
        takeGetsEmptyAndValues();
        lowestAndHighestAnswersAreTold();
        takeGetsUpToEight();
        likeAnswersCountOnce();
        onlyExplanationsWithTheCallCount();
        zeroWhenWorkerIsNotZeroToTwo();
        zeroWithoutAnOpenCall();
        zeroWhenItDoesNotFit();
        Check.end();
    }

    private static void putGetsOneOrTwo() {
        HandOffRecorder x = new HandOffRecorder(0, 1);
        Check.step(x.beginPut(0, 1));
        Check.due("stored", x.answers(0), 1);
        Check.step(x.beginPut(1, 2));
        Check.due("stored or not", x.answers(0), 2);
        Check.due("stored or not", x.answers(1), 2);
        Check.step(x.endPut(1, true));
        Check.due("not stored, for the other one was", x.answers(0), 1);
        Check.step(x.endPut(0, false));
        Check.step(x.beginPut(0, 3));
        Check.due("not stored in a full store", x.answers(0), 1);
        Check.step(x.beginTake(1));
        Check.due("stored if it was emptied first", x.answers(0), 2);
    }

    private static void takeGetsEmptyAndValues() {
        HandOffRecorder x = new HandOffRecorder(1, 8);
        Check.step(x.beginTake(0));
        Check.due("empty", x.answers(0), 1);
        Check.step(x.beginPut(1, 3));
        Check.due("empty or 3", x.answers(0), 2);
        Check.step(x.beginPut(2, 7));
        Check.due("empty, 3 or 7", x.answers(0), 3);
        Check.step(x.endPut(1, true));
        Check.step(x.endPut(2, true));
        Check.due("empty, 3 or 7", x.answers(0), 3);
        Check.step(x.beginTake(1));
        Check.due("begun when both were stored", x.answers(1), 2);
    }

    private static void lowestAndHighestAnswersAreTold() {
        HandOffRecorder x = new HandOffRecorder(1, 8);
        Check.step(x.beginTake(0));
        Check.step(x.beginPut(1, 0));
        Check.due("-1 and 0", x.answers(0), 2);
        Check.step(x.beginPut(2, 15));
        Check.due("-1, 0 and 15", x.answers(0), 3);
    }

    /** Seven puts during the take of a pile: it finds nothing or any of the seven values. */
    private static void takeGetsUpToEight() {
        HandOffRecorder x = new HandOffRecorder(1, 8);
        Check.step(x.beginTake(2));
        for (int i = 0; i < 7; i++) {
            Check.due(i + " puts", x.answers(2), i + 1);
            Check.put(x, 0, 15 - i, true);
        }
        Check.due("seven puts", x.answers(2), 8);
    }

    private static void likeAnswersCountOnce() {
        HandOffRecorder x = new HandOffRecorder(0, 8);
        Check.put(x, 0, 7, true);
        Check.put(x, 0, 7, true);
        Check.step(x.beginTake(1));
        Check.step(x.beginTake(2));
        Check.due("seven either way", x.answers(1), 1);
        Check.due("seven either way", x.answers(2), 1);
    }

    private static void onlyExplanationsWithTheCallCount() {
        HandOffRecorder x = new HandOffRecorder(0, 1);
        Check.put(x, 0, 7, true);
        Check.step(x.beginTake(1));
        Check.due("explanations()", x.explanations(), 2);
        Check.due("listed in one of two", x.answers(1), 1);
    }

    private static void zeroWhenWorkerIsNotZeroToTwo() {
        HandOffRecorder x = new HandOffRecorder(0, 8);
        for (int worker = 0; worker < 3; worker++) {
            Check.step(x.beginTake(worker));
        }
        for (int worker : Check.NO_WORKERS) {
            Check.due("answers(" + worker + ")", x.answers(worker), 0);
        }
        for (int worker = 0; worker < 3; worker++) {
            Check.due("answers(" + worker + ")", x.answers(worker), 1);
        }
    }

    private static void zeroWithoutAnOpenCall() {
        HandOffRecorder x = new HandOffRecorder(2, 8);
        for (int worker = 0; worker < 3; worker++) {
            Check.due("none begun", x.answers(worker), 0);
        }
        Check.take(x, 1, -1);
        Check.due("ended take", x.answers(1), 0);
        Check.step(x.beginTake(2));
        Check.step(x.giveUp(2));
        Check.due("given up", x.answers(2), 0);
        Check.step(x.beginPut(0, 1));
        Check.due("open", x.answers(0), 1);
        Check.step(x.endPut(0, true));
        Check.due("ended put", x.answers(0), 0);
    }

    private static void zeroWhenItDoesNotFit() {
        HandOffRecorder x = new HandOffRecorder(0, 8);
        Check.step(x.beginTake(0));
        Check.step(x.beginPut(1, 4));
        Check.due("fits", x.answers(0), 2);
        Check.take(x, 2, 9);
        Check.due("broken", x.answers(0), 0);
        Check.due("broken", x.answers(1), 0);
        Check.step(x.beginTake(2));
        Check.due("still broken", x.answers(2), 0);
        x.renew(0, 8);
        Check.due("after renew", x.answers(0), 0);
        Check.step(x.beginTake(0));
        Check.due("begun after renew", x.answers(0), 1);
    }
}
