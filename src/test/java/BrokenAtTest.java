/** Promise 11: brokenAt. */
public final class BrokenAtTest {
    public static void main(String[] args) {
        isZeroWhileTheRecordFits();
        namesTheFirstEventAndKeepsIt();
        givingUpMayBreak();
        Check.end();
    }

    private static void isZeroWhileTheRecordFits() {
        HandOffRecorder x = new HandOffRecorder(1, 8);
        Check.due("new", x.brokenAt(), 0);
        for (int i = 0; i < 8; i++) {
            Check.put(x, i % 3, i, true);
            Check.due("after put " + i, x.brokenAt(), 0);
        }
    }

    private static void namesTheFirstEventAndKeepsIt() {
        HandOffRecorder x = new HandOffRecorder(0, 2);
        Check.put(x, 0, 1, true);
        Check.step(x.beginPut(1, 2));
        Check.take(x, 0, 3);
        Check.due("broken by event 5", x.brokenAt(), 5);
        Check.take(x, 0, 1);
        Check.step(x.endPut(1, true));
        Check.due("still event 5", x.brokenAt(), 5);
        Check.due("refused call", x.giveUp(1), false);
        Check.due("still event 5", x.brokenAt(), 5);
        x.renew(0, 2);
        Check.due("after renew", x.brokenAt(), 0);
        Check.step(x.beginPut(0, 1));
        Check.step(x.endPut(0, false));
        Check.due("broken by event 2", x.brokenAt(), 2);
    }

    private static void givingUpMayBreak() {
        HandOffRecorder x = new HandOffRecorder(2, 2);
        Check.step(x.beginPut(0, 6));
        Check.take(x, 1, 6);
        Check.step(x.beginTake(2));
        Check.due("fits so far", x.brokenAt(), 0);
        Check.step(x.giveUp(0));
        Check.due("broken by giving up", x.brokenAt(), 5);
    }
}
