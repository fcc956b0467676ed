/** The three conditions of an explanation, and what makes explanations and outcomes different. */
public final class ExplanationTermsTest {
    public static void main(String[] args) {
        everyEndedCallIsInTheList();
        noGivenUpCallIsInTheList();
        openCallMayBeInTheListOrNot();
        noCallIsInTheListTwice();
        callEndedJustBeforeAnotherWasBegunStandsBeforeIt();
        callEndedJustAfterAnotherWasBegunMayStandBehindIt();
        openCallMayStandBehindCallsBegunLater();
        givenUpCallOrdersNothing();
        everyEndedCallGetsItsAnswer();
        whatOpenCallsGetDoesNotMatter();
        listsInAnotherOrderAreDifferent();
        likeCallsOfOneWorkerAreDifferent();
        differentExplanationsMayHaveOneOutcome();
        Check.end();
    }

    private static void everyEndedCallIsInTheList() {
        HandOffRecorder x = new HandOffRecorder(0, 1);
        Check.put(x, 0, 5, true);
        Check.due("a put", x.explanations(), 1);
        Check.due("a put", x.fewest(), 1);
        Check.put(x, 0, 6, false);
        Check.due("and one without effect", x.explanations(), 1);
        Check.take(x, 1, 5);
        Check.due("and a take", x.most(), 0);
    }

    private static void noGivenUpCallIsInTheList() {
        HandOffRecorder x = new HandOffRecorder(0, 2);
        Check.step(x.beginPut(0, 5));
        Check.due("open", x.explanations(), 2);
        Check.step(x.giveUp(0));
        Check.due("given up", x.explanations(), 1);
        Check.due("given up", x.most(), 0);
        Check.take(x, 1, -1);
        Check.due("nothing was put", x.fits(), true);
        Check.step(x.beginTake(0));
        Check.step(x.giveUp(0));
        Check.put(x, 1, 5, true);
        Check.due("nothing was taken", x.fewest(), 1);
    }

    private static void openCallMayBeInTheListOrNot() {
        HandOffRecorder x = new HandOffRecorder(0, 2);
        Check.step(x.beginPut(0, 5));
        Check.due("not", x.fewest(), 0);
        Check.due("in the list", x.most(), 1);
    }

    private static void noCallIsInTheListTwice() {
        HandOffRecorder x = new HandOffRecorder(0, 8);
        Check.step(x.beginPut(0, 5));
        Check.due("one put", x.most(), 1);
        Check.take(x, 1, 5);
        Check.due("taken once", x.fits(), true);
        Check.take(x, 1, 5);
        Check.due("taken twice", x.fits(), false);
    }

    /** The end of one call and the beginning of the other are neighbours in the record. */
    private static void callEndedJustBeforeAnotherWasBegunStandsBeforeIt() {
        HandOffRecorder x = new HandOffRecorder(0, 2);
        Check.step(x.beginPut(0, 1));
        Check.step(x.endPut(0, true));
        Check.step(x.beginPut(1, 2));
        Check.step(x.endPut(1, true));
        Check.due("explanations()", x.explanations(), 1);
        Check.due("mayHold(0, 2)", x.mayHold(0, 2), false);
    }

    private static void callEndedJustAfterAnotherWasBegunMayStandBehindIt() {
        HandOffRecorder x = new HandOffRecorder(0, 2);
        Check.step(x.beginPut(0, 1));
        Check.step(x.beginPut(1, 2));
        Check.step(x.endPut(0, true));
        Check.step(x.endPut(1, true));
        Check.due("explanations()", x.explanations(), 2);
        Check.due("mayHold(0, 1)", x.mayHold(0, 1), true);
        Check.due("mayHold(0, 2)", x.mayHold(0, 2), true);
    }

    private static void openCallMayStandBehindCallsBegunLater() {
        HandOffRecorder x = new HandOffRecorder(0, 8);
        Check.step(x.beginPut(2, 9));
        for (int i = 0; i < 7; i++) {
            Check.put(x, i % 2, i, true);
        }
        Check.due("explanations()", x.explanations(), 9);
        for (int place = 0; place < 8; place++) {
            Check.due("mayHold(" + place + ", 9)", x.mayHold(place, 9), true);
        }
    }

    /** It lay between two calls that overlap, and leaves both orders. */
    private static void givenUpCallOrdersNothing() {
        HandOffRecorder x = new HandOffRecorder(0, 8);
        Check.step(x.beginPut(0, 1));
        Check.step(x.beginPut(1, 2));
        Check.step(x.giveUp(1));
        Check.step(x.beginPut(1, 3));
        Check.step(x.endPut(0, true));
        Check.step(x.endPut(1, true));
        Check.due("explanations()", x.explanations(), 2);
        Check.due("mayHold(0, 3)", x.mayHold(0, 3), true);
        Check.due("mayHold(0, 2)", x.mayHold(0, 2), false);
    }

    private static void everyEndedCallGetsItsAnswer() {
        HandOffRecorder x = new HandOffRecorder(1, 1);
        Check.step(x.beginPut(0, 1));
        Check.step(x.beginPut(1, 2));
        Check.step(x.endPut(0, true));
        Check.step(x.endPut(1, false));
        Check.due("one order alone", x.explanations(), 1);
        x.renew(1, 1);
        Check.step(x.beginPut(0, 1));
        Check.step(x.beginPut(1, 2));
        Check.step(x.endPut(0, true));
        Check.step(x.endPut(1, true));
        Check.due("room for one", x.fits(), false);
        x.renew(1, 1);
        Check.step(x.beginPut(0, 1));
        Check.step(x.beginPut(1, 2));
        Check.step(x.endPut(0, false));
        Check.step(x.endPut(1, false));
        Check.due("one was stored", x.fits(), false);
    }

    private static void whatOpenCallsGetDoesNotMatter() {
        HandOffRecorder x = new HandOffRecorder(2, 1);
        Check.put(x, 0, 4, true);
        Check.step(x.beginPut(0, 5));
        Check.due("a put without room", x.explanations(), 2);
        Check.due("a put without room", x.certain(0), false);
        x.renew(2, 1);
        Check.step(x.beginTake(1));
        Check.due("a take of nothing", x.explanations(), 2);
        Check.due("a take of nothing", x.answers(1), 1);
    }

    private static void listsInAnotherOrderAreDifferent() {
        HandOffRecorder x = new HandOffRecorder(0, 1);
        Check.step(x.beginTake(0));
        Check.step(x.beginTake(1));
        Check.step(x.endTake(0, -1));
        Check.step(x.endTake(1, -1));
        Check.due("explanations()", x.explanations(), 2);
    }

    /** Worker, kind of call and value are the same, but one put was given up and the other is open. */
    private static void likeCallsOfOneWorkerAreDifferent() {
        HandOffRecorder x = new HandOffRecorder(0, 8);
        Check.step(x.beginPut(0, 5));
        Check.step(x.giveUp(0));
        Check.step(x.beginPut(0, 5));
        Check.due("one open, one given up", x.explanations(), 2);
        Check.step(x.endPut(0, true));
        Check.put(x, 0, 5, true);
        Check.due("two ended in order", x.explanations(), 1);
        Check.due("both stored", x.fewest(), 2);
    }

    private static void differentExplanationsMayHaveOneOutcome() {
        HandOffRecorder x = new HandOffRecorder(1, 8);
        Check.step(x.beginPut(0, 5));
        Check.step(x.beginPut(1, 5));
        Check.step(x.beginPut(2, 5));
        for (int worker = 0; worker < 3; worker++) {
            Check.step(x.endPut(worker, true));
        }
        Check.due("explanations()", x.explanations(), 6);
        Check.due("outcomes()", x.outcomes(), 1);
    }
}
