import java.util.List;
import java.util.function.Supplier;

/** Promise 2: renew, after every sort of record. */
public final class RenewTest {
    private static final List<Supplier<HandOffRecorder>> USED = List.of(
        RenewTest::unused, RenewTest::withOpenCalls, RenewTest::withGivenUpCalls, RenewTest::withFullStore,
        RenewTest::withStoreEmptiedAgain, RenewTest::withEightBegun, RenewTest::withNinthRefused,
        RenewTest::withEveryCallRefused, RenewTest::broken, RenewTest::brokenAndGoneOn, RenewTest::renewedTwice);

    public static void main(String[] args) {
        for (Supplier<HandOffRecorder> used : USED) {
            recordIsThrownAway(used);
            openCallsAreForgotten(used);
            eightCallsMayBeBegunAgain(used);
            kindIsNewAsInTheConstructor(used);
            capacityIsNewAsInTheConstructor(used);
        }
        Check.end();
    }

    private static void recordIsThrownAway(Supplier<HandOffRecorder> used) {
        for (int kind = 0; kind <= 2; kind++) {
            Check.empty("renewed", renewed(used, kind, 8));
        }
        Check.empty("renewed with no kind and no capacity", renewed(used, Integer.MAX_VALUE, Integer.MIN_VALUE));
    }

    private static void openCallsAreForgotten(Supplier<HandOffRecorder> used) {
        for (int worker = 0; worker < 3; worker++) {
            HandOffRecorder x = renewed(used, 0, 2);
            Check.due("endPut", x.endPut(worker, true), false);
            Check.due("endTake", x.endTake(worker, -1), false);
            Check.due("giveUp", x.giveUp(worker), false);
            Check.due("beginTake", x.beginTake(worker), true);
        }
    }

    private static void eightCallsMayBeBegunAgain(Supplier<HandOffRecorder> used) {
        HandOffRecorder x = renewed(used, 2, 1);
        for (int i = 0; i < 8; i++) {
            Check.take(x, i % 3, -1);
        }
        Check.due("begun()", x.begun(), 8);
        Check.due("events()", x.events(), 16);
        Check.due("fits()", x.fits(), true);
        Check.due("explanations()", x.explanations(), 1);
        Check.due("the ninth", x.beginTake(0), false);
    }

    private static void kindIsNewAsInTheConstructor(Supplier<HandOffRecorder> used) {
        int[] lines = {Integer.MIN_VALUE, -1, 0, 3, Integer.MAX_VALUE};
        for (int kind : lines) {
            Check.due("kind " + kind, Probe.kind(() -> renewed(used, kind, 2)), Probe.LINE);
        }
        Check.due("kind 1", Probe.kind(() -> renewed(used, 1, 2)), Probe.PILE);
        Check.due("kind 2", Probe.kind(() -> renewed(used, 2, 2)), Probe.SHARED_ROW);
    }

    private static void capacityIsNewAsInTheConstructor(Supplier<HandOffRecorder> used) {
        int[] given = {Integer.MIN_VALUE, -1, 0, 1, 2, 7, 8, 9, Integer.MAX_VALUE};
        int[] due = {1, 1, 1, 1, 2, 7, 8, 8, 8};
        for (int i = 0; i < given.length; i++) {
            Check.due("room for capacity " + given[i], Probe.room(renewed(used, i % 3, given[i])), due[i]);
        }
    }

    private static HandOffRecorder renewed(Supplier<HandOffRecorder> used, int kind, int capacity) {
        HandOffRecorder x = used.get();
        x.renew(kind, capacity);
        return x;
    }

    private static HandOffRecorder unused() {
        return new HandOffRecorder(1, 1);
    }

    private static HandOffRecorder withOpenCalls() {
        HandOffRecorder x = new HandOffRecorder(1, 3);
        Check.step(x.beginPut(0, 1));
        Check.step(x.beginTake(1));
        Check.step(x.beginPut(2, 15));
        return x;
    }

    private static HandOffRecorder withGivenUpCalls() {
        HandOffRecorder x = withOpenCalls();
        for (int worker = 0; worker < 3; worker++) {
            Check.step(x.giveUp(worker));
        }
        return x;
    }

    private static HandOffRecorder withFullStore() {
        HandOffRecorder x = new HandOffRecorder(0, 8);
        for (int value = 8; value < 16; value++) {
            Check.put(x, 0, value, true);
        }
        Check.due("full", x.fewest(), 8);
        return x;
    }

    private static HandOffRecorder withStoreEmptiedAgain() {
        HandOffRecorder x = new HandOffRecorder(2, 1);
        Check.put(x, 0, 15, true);
        Check.put(x, 0, 3, false);
        Check.take(x, 1, 15);
        Check.take(x, 2, -1);
        Check.due("emptied", x.most(), 0);
        return x;
    }

    private static HandOffRecorder withEightBegun() {
        HandOffRecorder x = withOpenCalls();
        for (int i = 0; i < 5; i++) {
            Check.step(x.giveUp(i % 3));
            Check.step(x.beginTake(i % 3));
        }
        Check.due("begun()", x.begun(), 8);
        return x;
    }

    private static HandOffRecorder withNinthRefused() {
        HandOffRecorder x = withEightBegun();
        Check.step(x.giveUp(0));
        Check.due("the ninth call", x.beginPut(0, 1), false);
        Check.due("the ninth call", x.beginTake(0), false);
        return x;
    }

    private static HandOffRecorder withEveryCallRefused() {
        HandOffRecorder x = new HandOffRecorder(2, 2);
        Check.due("beginPut", x.beginPut(1, 3), false);
        Check.due("beginTake", x.beginTake(3), false);
        Check.due("endPut", x.endPut(0, true), false);
        Check.due("endTake", x.endTake(1, 16), false);
        Check.due("giveUp", x.giveUp(2), false);
        return x;
    }

    private static HandOffRecorder broken() {
        HandOffRecorder x = new HandOffRecorder(1, 2);
        Check.step(x.beginPut(1, 3));
        Check.take(x, 0, 4);
        Check.due("brokenAt()", x.brokenAt(), 3);
        return x;
    }

    private static HandOffRecorder brokenAndGoneOn() {
        HandOffRecorder x = broken();
        for (int i = 0; i < 6; i++) {
            Check.take(x, 0, i);
        }
        Check.step(x.endPut(1, false));
        Check.due("brokenAt()", x.brokenAt(), 3);
        return x;
    }

    private static HandOffRecorder renewedTwice() {
        HandOffRecorder x = brokenAndGoneOn();
        x.renew(2, 8);
        Check.put(x, 0, 3, true);
        x.renew(1, 0);
        return x;
    }
}
