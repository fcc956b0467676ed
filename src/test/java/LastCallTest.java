/** An object is good for 512 calls: the last of them answers like the first, whatever came before. */
public final class LastCallTest {
    private static final int PROMISED = 512;
    private static final int CALLS_OF_A_ROUND = 32;

    public static void main(String[] args) {
        lastRoundIsRight();
        refusedCallsUseUpNothing();
        Check.end();
    }

    private static void lastRoundIsRight() {
        HandOffRecorder x = new HandOffRecorder(0, 8);
        for (int made = 0; made < PROMISED; made += CALLS_OF_A_ROUND) {
            round(x, made);
        }
    }

    /** Thirty-two calls: a record with all its eight calls, the most explanations, and a break at the end. */
    private static void round(HandOffRecorder x, int made) {
        x.renew(0, 8);
        for (int worker = 0; worker < 3; worker++) {
            Check.step(x.beginPut(worker, worker));
        }
        int[] ending = {2, 1, 0, 2, 1};
        for (int i = 0; i < ending.length; i++) {
            Check.step(x.endPut(ending[i], true));
            Check.step(x.beginPut(ending[i], 3 + i));
        }
        Check.due(made + " calls before, events()", x.events(), 13);
        Check.due("begun()", x.begun(), 8);
        Check.due("explanations()", x.explanations(), 680);
        Check.due("outcomes()", x.outcomes(), 680);
        Check.due("fewest()", x.fewest(), 5);
        Check.due("most()", x.most(), 8);
        Check.due("mayHold(7, 5)", x.mayHold(7, 5), true);
        Check.due("mayHold(8, 5)", x.mayHold(8, 5), false);
        Check.due("certain(0)", x.certain(0), false);
        Check.due("answers(0)", x.answers(0), 1);
        Check.due("giveUp(1)", x.giveUp(1), true);
        Check.due("beginTake(1)", x.beginTake(1), false);
        Check.due("endPut(0, false)", x.endPut(0, false), true);
        Check.due("fits()", x.fits(), false);
        Check.due("giveUp(2)", x.giveUp(2), true);
        Check.due("endTake(0, -1)", x.endTake(0, -1), false);
        Check.due("events()", x.events(), 16);
        Check.due("brokenAt()", x.brokenAt(), 15);
    }

    private static void refusedCallsUseUpNothing() {
        HandOffRecorder x = new HandOffRecorder(2, 1);
        for (int i = 0; i < 500; i++) {
            Check.due("refused", x.beginPut(1 + i % 2, i % 16), false);
        }
        Check.put(x, 0, 15, true);
        Check.take(x, 1, 15);
        Check.due("fits()", x.fits(), true);
        Check.due("events()", x.events(), 4);
        Check.due("begun()", x.begun(), 2);
    }
}
