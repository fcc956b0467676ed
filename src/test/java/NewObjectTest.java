/** Promise 1: a new object. */
public final class NewObjectTest {
    public static void main(String[] args) {
        recordAndStoreAreEmpty();
        kindsZeroOneAndTwoAreKept();
        otherKindsCountAsZero();
        capacitiesOneToEightAreKept();
        capacityBelowOneCountsAsOne();
        capacityAboveEightCountsAsEight();
        objectsShareNothing();
        Check.end();
    }

    private static void recordAndStoreAreEmpty() {
        for (int kind = -1; kind <= 3; kind++) {
            for (int capacity = 0; capacity <= 9; capacity++) {
                Check.empty("new(" + kind + ", " + capacity + ")", new HandOffRecorder(kind, capacity));
            }
        }
    }

    private static void kindsZeroOneAndTwoAreKept() {
        for (int capacity = 2; capacity <= 8; capacity += 6) {
            int room = capacity;
            Check.due("kind 0", Probe.kind(() -> new HandOffRecorder(0, room)), Probe.LINE);
            Check.due("kind 1", Probe.kind(() -> new HandOffRecorder(1, room)), Probe.PILE);
            Check.due("kind 2", Probe.kind(() -> new HandOffRecorder(2, room)), Probe.SHARED_ROW);
        }
    }

    private static void otherKindsCountAsZero() {
        int[] kinds = {Integer.MIN_VALUE, -2, -1, 3, 4, Integer.MAX_VALUE};
        for (int kind : kinds) {
            Check.due("kind " + kind, Probe.kind(() -> new HandOffRecorder(kind, 2)), Probe.LINE);
        }
    }

    private static void capacitiesOneToEightAreKept() {
        for (int kind = 0; kind <= 2; kind++) {
            for (int capacity = 1; capacity <= 8; capacity++) {
                Check.due("room for capacity " + capacity, Probe.room(new HandOffRecorder(kind, capacity)), capacity);
            }
        }
    }

    private static void capacityBelowOneCountsAsOne() {
        int[] capacities = {Integer.MIN_VALUE, -8, -1, 0};
        for (int kind = 0; kind <= 2; kind++) {
            for (int capacity : capacities) {
                Check.due("room for capacity " + capacity, Probe.room(new HandOffRecorder(kind, capacity)), 1);
            }
        }
    }

    /** Eight calls can't show that a ninth value has no room, but that eight have. */
    private static void capacityAboveEightCountsAsEight() {
        int[] capacities = {9, 10, 16, Integer.MAX_VALUE};
        for (int kind = 0; kind <= 2; kind++) {
            for (int capacity : capacities) {
                Check.due("room for capacity " + capacity, Probe.room(new HandOffRecorder(kind, capacity)), 8);
            }
        }
    }

    private static void objectsShareNothing() {
        HandOffRecorder used = new HandOffRecorder(1, 1);
        HandOffRecorder other = new HandOffRecorder(0, 8);
        Check.step(used.beginPut(1, 4));
        Check.take(used, 0, 9);
        Check.empty("an object made before the calls of another", other);
        Check.empty("an object made after them", new HandOffRecorder(1, 1));
        Check.due("room of the other", Probe.room(other), 8);
        Check.broken("the used one", used, 3);
    }
}
