/** Promise 8: events. */
public final class EventsTest {
    public static void main(String[] args) {
        everyKindOfEventCounts();
        refusedCallsDoNotCount();
        countsOnAfterEightCallsAndAfterABreak();
        Check.end();
    }

    private static void everyKindOfEventCounts() {
        HandOffRecorder x = new HandOffRecorder(0, 2);
        Check.due("new", x.events(), 0);
        Check.step(x.beginPut(0, 1));
        Check.due("after beginPut", x.events(), 1);
        Check.step(x.beginTake(1));
        Check.due("after beginTake", x.events(), 2);
        Check.step(x.endPut(0, true));
        Check.due("after endPut", x.events(), 3);
        Check.step(x.endTake(1, 1));
        Check.due("after endTake", x.events(), 4);
        Check.step(x.beginTake(2));
        Check.step(x.giveUp(2));
        Check.due("after giveUp", x.events(), 6);
        x.renew(0, 2);
        Check.due("after renew", x.events(), 0);
    }

    private static void refusedCallsDoNotCount() {
        HandOffRecorder x = new HandOffRecorder(2, 2);
        x.beginPut(1, 1);
        x.beginTake(3);
        x.endPut(0, true);
        x.endTake(0, 1);
        x.giveUp(0);
        Check.due("events()", x.events(), 0);
    }

    private static void countsOnAfterEightCallsAndAfterABreak() {
        HandOffRecorder x = new HandOffRecorder(0, 2);
        for (int i = 0; i < 8; i++) {
            Check.take(x, i % 3, i);
        }
        Check.due("brokenAt()", x.brokenAt(), 2);
        Check.due("events()", x.events(), 16);
    }
}
