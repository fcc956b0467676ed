/** Promise 16: mayHold. */
public final class MayHoldTest {
    public static void main(String[] args) {
        tellsPlacesFromTheFront();
        tellsEveryValue();
        someExplanationIsEnough();
        valueAndPlaceBelongTogether();
        falseWhenThereIsNoSuchPlace();
        falseBehindTheLastValue();
        falseWhenThereIsNoSuchValue();
        falseWhenItDoesNotFit();
        Check.end();
    }

    private static void tellsPlacesFromTheFront() {
        HandOffRecorder x = full();
        for (int place = 0; place < 8; place++) {
            for (int value = 0; value < 16; value++) {
                Check.due("mayHold(" + place + ", " + value + ")", x.mayHold(place, value), value == 15 - place);
            }
        }
    }

    private static void tellsEveryValue() {
        for (int stored = 0; stored < 16; stored++) {
            HandOffRecorder x = new HandOffRecorder(0, 1);
            Check.put(x, 1, stored, true);
            for (int value = 0; value < 16; value++) {
                Check.due(stored + " stored, mayHold(0, " + value + ")", x.mayHold(0, value), value == stored);
            }
        }
    }

    private static void someExplanationIsEnough() {
        HandOffRecorder x = new HandOffRecorder(2, 8);
        Check.put(x, 0, 4, true);
        Check.put(x, 0, 6, true);
        Check.step(x.beginTake(1));
        Check.due("front left", x.mayHold(0, 4), true);
        Check.due("front taken", x.mayHold(0, 6), true);
        Check.due("back left", x.mayHold(1, 6), true);
        Check.due("never there", x.mayHold(1, 4), false);
        Check.step(x.endTake(1, 4));
        Check.due("front gone", x.mayHold(0, 4), false);
        Check.due("front now", x.mayHold(0, 6), true);
        Check.due("nothing behind it", x.mayHold(1, 6), false);
    }

    /** A place that one outcome has and a value that another has are not enough. */
    private static void valueAndPlaceBelongTogether() {
        HandOffRecorder x = new HandOffRecorder(1, 2);
        Check.put(x, 0, 9, true);
        Check.step(x.beginTake(1));
        Check.step(x.beginPut(2, 3));
        Check.due("mayHold(0, 9)", x.mayHold(0, 9), true);
        Check.due("mayHold(1, 3)", x.mayHold(1, 3), true);
        Check.due("mayHold(0, 3)", x.mayHold(0, 3), true);
        Check.due("mayHold(1, 9)", x.mayHold(1, 9), false);
    }

    /** Places 8 and more would lie beside those of the store, and so would -1. */
    private static void falseWhenThereIsNoSuchPlace() {
        HandOffRecorder x = full();
        int[] noPlaces = {Integer.MIN_VALUE, -64, -16, -8, -1, 8, 9, 15, 16, 64, Integer.MAX_VALUE};
        for (int place : noPlaces) {
            for (int value = 0; value < 16; value++) {
                Check.due("mayHold(" + place + ", " + value + ")", x.mayHold(place, value), false);
            }
        }
    }

    /** The store has the place, but holds fewer values: a zero does not stand there either. */
    private static void falseBehindTheLastValue() {
        for (int held = 0; held < 8; held++) {
            HandOffRecorder x = new HandOffRecorder(0, 8);
            for (int i = 0; i < held; i++) {
                Check.put(x, 0, 0, true);
            }
            for (int place = 0; place <= 8; place++) {
                Check.due(held + " zeros, mayHold(" + place + ", 0)", x.mayHold(place, 0), place < held);
            }
            Check.step(x.beginTake(1));
            Check.due("one may have been taken", x.mayHold(held - 1, 0), held > 0);
        }
    }

    private static void falseWhenThereIsNoSuchValue() {
        HandOffRecorder x = full();
        int[] noValues = {Integer.MIN_VALUE, -16, -1, 16, 31, 32, Integer.MAX_VALUE};
        for (int place = 0; place < 8; place++) {
            for (int value : noValues) {
                Check.due("mayHold(" + place + ", " + value + ")", x.mayHold(place, value), false);
            }
        }
        HandOffRecorder empty = new HandOffRecorder(0, 1);
        Check.due("-1 of an empty store", empty.mayHold(0, -1), false);
    }

    private static void falseWhenItDoesNotFit() {
        HandOffRecorder x = new HandOffRecorder(0, 2);
        Check.put(x, 0, 3, true);
        Check.take(x, 0, 4);
        Check.due("broken", x.mayHold(0, 3), false);
        Check.step(x.beginPut(0, 5));
        Check.due("still broken", x.mayHold(0, 5), false);
        x.renew(0, 2);
        Check.due("after renew", x.mayHold(0, 3), false);
        Check.put(x, 0, 6, true);
        Check.due("put after renew", x.mayHold(0, 6), true);
    }

    private static HandOffRecorder full() {
        HandOffRecorder x = new HandOffRecorder(1, 8);
        for (int i = 0; i < 8; i++) {
            Check.put(x, 0, 15 - i, true);
        }
        return x;
    }
}
