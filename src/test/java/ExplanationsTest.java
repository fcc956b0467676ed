/** Promise 12: explanations. */
public final class ExplanationsTest {
    public static void main(String[] args) {
        emptyListExplainsTheEmptyRecord();
        openCallsMayBeLeftOut();
        likeCallsAreDifferent();
        callsWithoutEffectStandInTheList();
        orderInTimeIsKept();
        isZeroWhenItDoesNotFit();
        countsTheMostThatThereCanBe();
        Check.end();
    }

    private static void emptyListExplainsTheEmptyRecord() {
        Check.due("none begun", new HandOffRecorder(0, 8).explanations(), 1);
    }

    private static void openCallsMayBeLeftOut() {
        HandOffRecorder x = new HandOffRecorder(0, 8);
        Check.step(x.beginPut(0, 1));
        Check.due("one open", x.explanations(), 2);
        Check.step(x.beginTake(1));
        Check.due("two open", x.explanations(), 5);
        Check.step(x.beginPut(2, 1));
        Check.due("three open", x.explanations(), 16);
        Check.step(x.endPut(2, true));
        Check.due("one of three ended", x.explanations(), 11);
    }

    private static void likeCallsAreDifferent() {
        HandOffRecorder x = new HandOffRecorder(0, 8);
        Check.step(x.beginPut(0, 1));
        Check.step(x.beginPut(1, 1));
        Check.step(x.endPut(0, true));
        Check.step(x.endPut(1, true));
        Check.due("like puts", x.explanations(), 2);
        x.renew(0, 8);
        Check.step(x.beginTake(0));
        Check.step(x.beginTake(1));
        Check.step(x.beginTake(2));
        Check.step(x.endTake(0, -1));
        Check.step(x.endTake(1, -1));
        Check.step(x.endTake(2, -1));
        Check.due("like takes", x.explanations(), 6);
    }

    private static void callsWithoutEffectStandInTheList() {
        HandOffRecorder x = new HandOffRecorder(1, 1);
        Check.put(x, 0, 1, true);
        Check.step(x.beginPut(0, 2));
        Check.step(x.beginPut(1, 3));
        Check.due("two puts without room", x.explanations(), 5);
        x.renew(1, 1);
        Check.step(x.beginTake(0));
        Check.step(x.beginTake(1));
        Check.due("two takes of nothing", x.explanations(), 5);
    }

    private static void orderInTimeIsKept() {
        HandOffRecorder x = new HandOffRecorder(0, 8);
        Check.step(x.beginPut(0, 1));
        Check.put(x, 1, 2, true);
        Check.put(x, 1, 3, true);
        Check.due("open among two in order", x.explanations(), 4);
        Check.step(x.beginPut(2, 4));
        Check.due("the last behind the ended ones", x.explanations(), 9);
    }

    private static void isZeroWhenItDoesNotFit() {
        HandOffRecorder x = new HandOffRecorder(0, 8);
        Check.take(x, 0, 1);
        Check.due("broken", x.explanations(), 0);
        Check.step(x.beginPut(1, 1));
        Check.due("still broken", x.explanations(), 0);
        x.renew(0, 8);
        Check.due("after renew", x.explanations(), 1);
    }

    /** The order of events that leaves the most explanations: it fills all that the object keeps. */
    private static void countsTheMostThatThereCanBe() {
        HandOffRecorder x = new HandOffRecorder(0, 8);
        Check.step(x.beginPut(0, 0));
        Check.step(x.beginPut(1, 1));
        Check.step(x.beginPut(2, 2));
        int[] ending = {2, 1, 0, 2, 1};
        for (int i = 0; i < ending.length; i++) {
            Check.step(x.endPut(ending[i], true));
            Check.step(x.beginPut(ending[i], 3 + i));
        }
        Check.due("explanations", x.explanations(), 680);
        Check.due("outcomes", x.outcomes(), 680);
        Check.due("fewest", x.fewest(), 5);
        Check.due("most", x.most(), 8);
    }
}
