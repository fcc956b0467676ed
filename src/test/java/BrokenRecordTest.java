import java.util.List;
import java.util.function.Supplier;

/** The record that does not fit: what every question answers then, after further events, and after renew. */
public final class BrokenRecordTest {
    /** Every way to break a record, each by its sixth event; workers 1 and 2 have open calls then. */
    private static final List<Supplier<HandOffRecorder>> BROKEN = List.of(
        BrokenRecordTest::byStored, BrokenRecordTest::byNotStored, BrokenRecordTest::byAValue,
        BrokenRecordTest::byEmpty, BrokenRecordTest::byGivingUp);

    public static void main(String[] args) {
        for (Supplier<HandOffRecorder> broken : BROKEN) {
            everyQuestionTellsIt(broken);
            furtherEventsAreAcceptedAndChangeNothingOfIt(broken);
            refusedCallsChangeNothingOfIt(broken);
            renewEndsIt(broken);
        }
        Check.end();
    }

    private static void everyQuestionTellsIt(Supplier<HandOffRecorder> made) {
        HandOffRecorder x = made.get();
        Check.broken("broken", x, 6);
        Check.due("events()", x.events(), 6);
        Check.due("begun()", x.begun(), 4);
    }

    private static void furtherEventsAreAcceptedAndChangeNothingOfIt(Supplier<HandOffRecorder> made) {
        HandOffRecorder x = made.get();
        Check.step(x.beginPut(0, 9));
        Check.broken("after beginPut", x, 6);
        Check.step(x.endPut(0, true));
        Check.step(x.beginTake(0));
        Check.broken("after endPut and beginTake", x, 6);
        Check.step(x.endTake(0, 9));
        Check.step(x.giveUp(1));
        Check.broken("after endTake and giveUp", x, 6);
        Check.due("events()", x.events(), 11);
    }

    private static void refusedCallsChangeNothingOfIt(Supplier<HandOffRecorder> made) {
        Check.refused("beginPut", made, x -> x.beginPut(1, 1));
        Check.refused("beginTake", made, x -> x.beginTake(2));
        Check.refused("endPut", made, x -> x.endPut(0, true));
        Check.refused("endTake", made, x -> x.endTake(0, -1));
        Check.refused("giveUp", made, x -> x.giveUp(0));
    }

    private static void renewEndsIt(Supplier<HandOffRecorder> made) {
        HandOffRecorder x = made.get();
        x.renew(0, 1);
        Check.empty("renewed", x);
        Check.put(x, 0, 9, true);
        Check.due("fits()", x.fits(), true);
        Check.due("mayHold(0, 9)", x.mayHold(0, 9), true);
        Check.due("brokenAt()", x.brokenAt(), 0);
    }

    private static HandOffRecorder byStored() {
        HandOffRecorder x = full();
        Check.step(x.beginPut(0, 2));
        Check.step(x.beginPut(1, 3));
        Check.step(x.beginPut(2, 4));
        return afterSixEvents(x, x.endPut(0, true));
    }

    private static HandOffRecorder byNotStored() {
        HandOffRecorder x = new HandOffRecorder(1, 4);
        Check.put(x, 0, 1, true);
        Check.step(x.beginPut(0, 2));
        Check.step(x.beginPut(1, 3));
        Check.step(x.beginPut(2, 4));
        return afterSixEvents(x, x.endPut(0, false));
    }

    private static HandOffRecorder byAValue() {
        HandOffRecorder x = full();
        Check.step(x.beginTake(0));
        Check.step(x.beginPut(1, 3));
        Check.step(x.beginPut(2, 4));
        return afterSixEvents(x, x.endTake(0, 5));
    }

    private static HandOffRecorder byEmpty() {
        HandOffRecorder x = full();
        Check.step(x.beginTake(0));
        Check.step(x.beginPut(1, 3));
        Check.step(x.beginPut(2, 4));
        return afterSixEvents(x, x.endTake(0, -1));
    }

    /** Worker 0 put what worker 1 has taken; then it gives the put up. */
    private static HandOffRecorder byGivingUp() {
        HandOffRecorder x = new HandOffRecorder(0, 1);
        Check.step(x.beginPut(0, 1));
        Check.take(x, 1, 1);
        Check.step(x.beginTake(1));
        Check.step(x.beginTake(2));
        return afterSixEvents(x, x.giveUp(0));
    }

    private static HandOffRecorder full() {
        HandOffRecorder x = new HandOffRecorder(0, 1);
        Check.put(x, 0, 1, true);
        return x;
    }

    private static HandOffRecorder afterSixEvents(HandOffRecorder x, boolean accepted) {
        Check.due("the breaking event", accepted, true);
        Check.due("events()", x.events(), 6);
        return x;
    }
}
