/** Promise 7: giveUp. */
public final class GiveUpTest {
    public static void main(String[] args) {
        givenUpCallStandsInNoExplanation();
        isAcceptedWhereTheRecordDoesNotFit();
        refusesWithoutAnOpenCall();
        Check.end();
    }

    private static void givenUpCallStandsInNoExplanation() {
        HandOffRecorder x = new HandOffRecorder(0, 3);
        Check.step(x.beginPut(0, 1));
        Check.step(x.beginPut(1, 2));
        Check.step(x.beginTake(2));
        Check.due("giveUp(1)", x.giveUp(1), true);
        Check.due("mayHold(0, 2)", x.mayHold(0, 2), false);
        Check.due("explanations()", x.explanations(), 5);
        Check.due("giveUp(2)", x.giveUp(2), true);
        Check.due("explanations()", x.explanations(), 2);
        Check.due("events()", x.events(), 5);
        Check.due("begun()", x.begun(), 3);
        Check.due("certain(1)", x.certain(1), false);
        Check.due("answers(1)", x.answers(1), 0);
    }

    private static void isAcceptedWhereTheRecordDoesNotFit() {
        HandOffRecorder x = new HandOffRecorder(1, 1);
        Check.step(x.beginPut(1, 3));
        Check.take(x, 0, 3);
        Check.due("fits()", x.fits(), true);
        Check.due("giveUp(1)", x.giveUp(1), true);
        Check.due("fits()", x.fits(), false);
        Check.step(x.beginTake(1));
        Check.due("giveUp(1) again", x.giveUp(1), true);
        Check.due("events()", x.events(), 6);
    }

    private static void refusesWithoutAnOpenCall() {
        HandOffRecorder x = new HandOffRecorder(0, 1);
        Check.put(x, 0, 3, true);
        Check.step(x.beginTake(1));
        Check.step(x.giveUp(1));
        String before = Check.state(x);
        int[] workers = {-1, 3, Integer.MIN_VALUE, Integer.MAX_VALUE, 0, 1, 2};
        for (int worker : workers) {
            Check.refused("giveUp(" + worker + ")", x.giveUp(worker), x, before);
        }
    }
}
