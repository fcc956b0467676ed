/** Promise 14: fewest. */
public final class FewestTest {
    public static void main(String[] args) {
        isZeroForTheEmptyRecord();
        isTheLeastOfAllExplanations();
        isNeverBelowZero();
        isTheCapacityForAFullStore();
        isNoneWhenItDoesNotFit();
        Check.end();
    }

    private static void isZeroForTheEmptyRecord() {
        Check.due("empty record", new HandOffRecorder(0, 1).fewest(), 0);
    }

    private static void isTheLeastOfAllExplanations() {
        HandOffRecorder x = new HandOffRecorder(0, 8);
        Check.step(x.beginPut(0, 3));
        Check.due("open put left out", x.fewest(), 0);
        Check.step(x.endPut(0, true));
        Check.due("ended put", x.fewest(), 1);
        Check.put(x, 0, 4, true);
        Check.put(x, 0, 5, true);
        Check.due("three ended", x.fewest(), 3);
        Check.step(x.beginTake(1));
        Check.step(x.beginTake(2));
        Check.due("two may be taken", x.fewest(), 1);
        Check.step(x.giveUp(1));
        Check.due("one may be taken", x.fewest(), 2);
    }

    private static void isNeverBelowZero() {
        HandOffRecorder x = new HandOffRecorder(1, 1);
        Check.put(x, 0, 3, true);
        for (int worker = 0; worker < 3; worker++) {
            Check.step(x.beginTake(worker));
        }
        Check.due("three takes of one value", x.fewest(), 0);
    }

    private static void isTheCapacityForAFullStore() {
        for (int capacity = 1; capacity <= 8; capacity++) {
            HandOffRecorder x = new HandOffRecorder(capacity % 3, capacity);
            for (int i = 0; i < capacity; i++) {
                Check.put(x, 0, i, true);
            }
            Check.due("full", x.fewest(), capacity);
        }
    }

    private static void isNoneWhenItDoesNotFit() {
        HandOffRecorder x = new HandOffRecorder(0, 2);
        Check.put(x, 0, 3, true);
        Check.take(x, 2, 5);
        Check.due("broken", x.fewest(), HandOffRecorder.NONE);
        Check.step(x.beginPut(0, 5));
        Check.due("still broken", x.fewest(), HandOffRecorder.NONE);
        x.renew(0, 2);
        Check.due("after renew", x.fewest(), 0);
    }
}
