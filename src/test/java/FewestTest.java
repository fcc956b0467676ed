/** Promise 14: fewest. */
public final class FewestTest {
    public static void main(String[] args) {
        HandOffRecorder x = new HandOffRecorder(0, 8);
        Check.due("empty record", x.fewest(), 0);
        Check.step(x.beginPut(0, 3));
        Check.due("open put left out", x.fewest(), 0);
        Check.step(x.endPut(0, true));
        Check.due("ended put", x.fewest(), 1);
        Check.put(x, 0, 4, true);
        Check.put(x, 0, 5, true);
        Check.due("three ended", x.fewest(), 3);
        Check.step(x.beginTake(1));
        Check.step(x.beginTake(2));
        Check.due("two may be taken", x.fewest(), 1);
        Check.step(x.giveUp(1));
        Check.due("one may be taken", x.fewest(), 2);
        Check.step(x.endTake(2, 5));
        Check.due("broken", x.fewest(), HandOffRecorder.NONE);
        fullStore();
        Check.end();
    }

    private static void fullStore() {
        HandOffRecorder x = new HandOffRecorder(1, 8);
        for (int i = 0; i < 8; i++) {
            Check.put(x, 0, i, true);
        }
        Check.due("full", x.fewest(), 8);
        x.renew(1, 8);
        Check.due("after renew", x.fewest(), 0);
    }
}
