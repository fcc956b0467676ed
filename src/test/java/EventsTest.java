/** Promise 8: events. */
public final class EventsTest {
    public static void main(String[] args) {
        isZeroForTheEmptyRecord();
        everySortOfEventCountsOnce();
        refusedCallsDoNotCount();
        questionsDoNotCount();
        countsUpToSixteen();
        countsOnWhereTheRecordDoesNotFit();
        isZeroAfterRenew();
        Check.end();
    }

    private static void isZeroForTheEmptyRecord() {
        Check.due("new", new HandOffRecorder(0, 1).events(), 0);
    }

    private static void everySortOfEventCountsOnce() {
        HandOffRecorder x = new HandOffRecorder(0, 2);
        Check.step(x.beginPut(0, 1));
        Check.due("after beginPut", x.events(), 1);
        Check.step(x.beginTake(1));
        Check.due("after beginTake", x.events(), 2);
        Check.step(x.endPut(0, true));
        Check.due("after endPut", x.events(), 3);
        Check.step(x.endTake(1, 1));
        Check.due("after endTake", x.events(), 4);
        Check.step(x.beginTake(2));
        Check.step(x.giveUp(2));
        Check.due("after giveUp", x.events(), 6);
    }

    private static void refusedCallsDoNotCount() {
        HandOffRecorder x = new HandOffRecorder(2, 2);
        Check.due("beginPut", x.beginPut(1, 1), false);
        Check.due("beginTake", x.beginTake(3), false);
        Check.due("endPut", x.endPut(0, true), false);
        Check.due("endTake", x.endTake(0, 1), false);
        Check.due("giveUp", x.giveUp(0), false);
        Check.due("events()", x.events(), 0);
    }

    private static void questionsDoNotCount() {
        HandOffRecorder x = new HandOffRecorder(1, 2);
        Check.step(x.beginPut(1, 1));
        Check.state(x);
        Check.due("events()", x.events(), 1);
    }

    /** Eight calls, each begun and closed: a record has no more events. */
    private static void countsUpToSixteen() {
        HandOffRecorder x = new HandOffRecorder(0, 2);
        for (int i = 0; i < 8; i++) {
            Check.take(x, i % 3, -1);
            Check.due("events()", x.events(), 2 * i + 2);
        }
        for (int worker = 0; worker < 3; worker++) {
            Check.due("beginTake", x.beginTake(worker), false);
            Check.due("giveUp", x.giveUp(worker), false);
        }
        Check.due("events()", x.events(), 16);
    }

    private static void countsOnWhereTheRecordDoesNotFit() {
        HandOffRecorder x = new HandOffRecorder(0, 2);
        for (int i = 0; i < 8; i++) {
            Check.take(x, i % 3, i);
        }
        Check.due("brokenAt()", x.brokenAt(), 2);
        Check.due("events()", x.events(), 16);
    }

    private static void isZeroAfterRenew() {
        HandOffRecorder x = new HandOffRecorder(0, 2);
        for (int i = 0; i < 8; i++) {
            Check.put(x, 0, i, true);
        }
        x.renew(0, 2);
        Check.due("after renew", x.events(), 0);
        Check.step(x.beginTake(0));
        Check.due("the first again", x.events(), 1);
    }
}
