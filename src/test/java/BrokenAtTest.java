/** Promise 11: brokenAt. */
public final class BrokenAtTest {
    public static void main(String[] args) {
        isZeroWhileTheRecordFits();
        eventsAreNumberedFromOne();
        lastEventMayBeTheOne();
        everySortOfClosingEventMayBreak();
        staysAfterFurtherEventsOfEverySort();
        staysAfterASecondWrongAnswer();
        staysAfterRefusedCalls();
        refusedCallsAreNotNumbered();
        isZeroAfterRenewAndCountsAnew();
        Check.end();
    }

    private static void isZeroWhileTheRecordFits() {
        HandOffRecorder x = new HandOffRecorder(1, 8);
        Check.due("new", x.brokenAt(), 0);
        for (int i = 0; i < 8; i++) {
            Check.step(x.beginPut(i % 3, i));
            Check.due("put " + i + " begun", x.brokenAt(), 0);
            Check.step(x.endPut(i % 3, true));
            Check.due("put " + i + " ended", x.brokenAt(), 0);
        }
    }

    /** No beginning breaks a record, so the second event is the earliest. */
    private static void eventsAreNumberedFromOne() {
        HandOffRecorder x = new HandOffRecorder(0, 1);
        Check.step(x.beginPut(2, 1));
        Check.due("begun", x.brokenAt(), 0);
        Check.step(x.endPut(2, false));
        Check.due("broken by event 2", x.brokenAt(), 2);
    }

    private static void lastEventMayBeTheOne() {
        HandOffRecorder x = new HandOffRecorder(0, 7);
        for (int i = 0; i < 7; i++) {
            Check.put(x, 0, i, true);
        }
        Check.step(x.beginPut(0, 7));
        Check.due("after event 15", x.brokenAt(), 0);
        Check.step(x.endPut(0, true));
        Check.due("broken by event 16", x.brokenAt(), 16);
    }

    private static void everySortOfClosingEventMayBreak() {
        HandOffRecorder x = new HandOffRecorder(2, 1);
        Check.put(x, 0, 6, true);
        Check.put(x, 0, 7, true);
        Check.due("endPut with true", x.brokenAt(), 4);
        x.renew(2, 1);
        Check.put(x, 0, 6, false);
        Check.due("endPut with false", x.brokenAt(), 2);
        x.renew(2, 1);
        Check.take(x, 1, 6);
        Check.due("endTake with a value", x.brokenAt(), 2);
        x.renew(2, 1);
        Check.put(x, 0, 6, true);
        Check.take(x, 2, -1);
        Check.due("endTake with -1", x.brokenAt(), 4);
        x.renew(2, 1);
        Check.step(x.beginPut(0, 6));
        Check.take(x, 1, 6);
        Check.step(x.beginTake(2));
        Check.due("fits so far", x.brokenAt(), 0);
        Check.step(x.giveUp(0));
        Check.due("giveUp", x.brokenAt(), 5);
    }

    private static void staysAfterFurtherEventsOfEverySort() {
        HandOffRecorder x = brokenByEventFive();
        Check.step(x.beginTake(2));
        Check.due("after beginTake", x.brokenAt(), 5);
        Check.step(x.endTake(2, 1));
        Check.due("after endTake", x.brokenAt(), 5);
        Check.step(x.beginPut(2, 3));
        Check.due("after beginPut", x.brokenAt(), 5);
        Check.step(x.endPut(1, true));
        Check.due("after endPut", x.brokenAt(), 5);
        Check.step(x.giveUp(2));
        Check.due("after giveUp", x.brokenAt(), 5);
        Check.due("events()", x.events(), 10);
    }

    private static void staysAfterASecondWrongAnswer() {
        HandOffRecorder x = brokenByEventFive();
        for (int i = 0; i < 5; i++) {
            Check.take(x, 0, 15);
            Check.due("after a further wrong answer", x.brokenAt(), 5);
        }
    }

    private static void staysAfterRefusedCalls() {
        HandOffRecorder x = brokenByEventFive();
        Check.due("beginPut", x.beginPut(1, 1), false);
        Check.due("beginTake", x.beginTake(3), false);
        Check.due("endPut", x.endPut(0, false), false);
        Check.due("endTake", x.endTake(1, 1), false);
        Check.due("giveUp", x.giveUp(2), false);
        Check.due("after refused calls", x.brokenAt(), 5);
    }

    private static void refusedCallsAreNotNumbered() {
        HandOffRecorder x = new HandOffRecorder(0, 2);
        Check.step(x.beginTake(0));
        Check.due("beginTake", x.beginTake(0), false);
        Check.due("endTake", x.endTake(0, 16), false);
        Check.step(x.endTake(0, 15));
        Check.due("broken by event 2", x.brokenAt(), 2);
    }

    private static void isZeroAfterRenewAndCountsAnew() {
        HandOffRecorder x = brokenByEventFive();
        x.renew(0, 2);
        Check.due("after renew", x.brokenAt(), 0);
        Check.put(x, 0, 1, true);
        Check.due("a record that fits", x.brokenAt(), 0);
        Check.take(x, 0, 2);
        Check.due("broken by event 4", x.brokenAt(), 4);
    }

    private static HandOffRecorder brokenByEventFive() {
        HandOffRecorder x = new HandOffRecorder(0, 2);
        Check.put(x, 0, 1, true);
        Check.step(x.beginPut(1, 2));
        Check.take(x, 0, 3);
        Check.due("broken by event 5", x.brokenAt(), 5);
        return x;
    }
}
