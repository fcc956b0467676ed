/** Promise 15: most. */
public final class MostTest {
    public static void main(String[] args) {
        isZeroForTheEmptyRecord();
        isTheGreatestOfAllExplanations();
        isNeverAboveTheCapacity();
        isNoneWhenItDoesNotFit();
        Check.end();
    }

    private static void isZeroForTheEmptyRecord() {
        Check.due("empty record", new HandOffRecorder(0, 8).most(), 0);
    }

    private static void isTheGreatestOfAllExplanations() {
        HandOffRecorder x = new HandOffRecorder(0, 3);
        Check.step(x.beginPut(0, 3));
        Check.step(x.beginPut(1, 4));
        Check.due("two open puts", x.most(), 2);
        Check.step(x.giveUp(1));
        Check.due("one given up", x.most(), 1);
        Check.step(x.beginTake(1));
        Check.step(x.endPut(0, true));
        Check.due("open take left out", x.most(), 1);
        Check.step(x.endTake(1, 3));
        Check.due("taken", x.most(), 0);
    }

    /** Each capacity is reached, by an open put at the end, and with further calls left not passed. */
    private static void isNeverAboveTheCapacity() {
        for (int capacity = 1; capacity <= 8; capacity++) {
            HandOffRecorder x = new HandOffRecorder(capacity % 3, capacity);
            for (int i = 1; i < capacity; i++) {
                Check.put(x, 0, i, true);
            }
            Check.due("one short of full", x.most(), capacity - 1);
            Check.step(x.beginPut(0, 15));
            Check.due("may be full", x.most(), capacity);
            Check.step(x.endPut(0, true));
            Check.due("full", x.most(), capacity);
            Check.due("one more begins, but for the ninth", x.beginPut(0, 14), capacity < 8);
            Check.due("no fuller", x.most(), capacity);
        }
    }

    private static void isNoneWhenItDoesNotFit() {
        HandOffRecorder x = new HandOffRecorder(0, 3);
        Check.step(x.beginPut(1, 8));
        Check.put(x, 0, 5, true);
        Check.put(x, 0, 6, true);
        Check.put(x, 0, 7, false);
        Check.due("full by the open put", x.most(), 3);
        Check.step(x.giveUp(1));
        Check.due("broken", x.most(), HandOffRecorder.NONE);
        Check.step(x.beginPut(0, 5));
        Check.due("still broken", x.most(), HandOffRecorder.NONE);
        x.renew(0, 3);
        Check.due("after renew", x.most(), 0);
    }
}
