/** Promise 16: mayHold. */
public final class MayHoldTest {
    public static void main(String[] args) {
        tellsPlacesFromTheFront();
        someExplanationIsEnough();
        noSuchPlaceOrValue();
        isFalseWhenItDoesNotFit();
        Check.end();
    }

    private static void tellsPlacesFromTheFront() {
        HandOffRecorder x = new HandOffRecorder(1, 8);
        for (int i = 0; i < 8; i++) {
            Check.put(x, 0, 15 - i, true);
        }
        for (int place = 0; place < 8; place++) {
            for (int value = 0; value < 16; value++) {
                Check.due("mayHold(" + place + ", " + value + ")", x.mayHold(place, value), value == 15 - place);
            }
        }
    }

    private static void someExplanationIsEnough() {
        HandOffRecorder x = new HandOffRecorder(2, 8);
        Check.put(x, 0, 4, true);
        Check.put(x, 0, 6, true);
        Check.step(x.beginTake(1));
        Check.due("front left", x.mayHold(0, 4), true);
        Check.due("front taken", x.mayHold(0, 6), true);
        Check.due("back left", x.mayHold(1, 6), true);
        Check.due("never there", x.mayHold(1, 4), false);
        Check.step(x.endTake(1, 4));
        Check.due("front gone", x.mayHold(0, 4), false);
        Check.due("front now", x.mayHold(0, 6), true);
        Check.due("nothing behind it", x.mayHold(1, 6), false);
    }

    private static void noSuchPlaceOrValue() {
        HandOffRecorder x = new HandOffRecorder(0, 2);
        Check.put(x, 0, 0, true);
        Check.due("a zero", x.mayHold(0, 0), true);
        int[] noPlaces = {-1, 1, 2, 7, 8, 9, 16, 32, 64, -64, Integer.MIN_VALUE, Integer.MAX_VALUE};
        for (int place : noPlaces) {
            Check.due("mayHold(" + place + ", 0)", x.mayHold(place, 0), false);
        }
        int[] noValues = {-1, 16, 32, Integer.MIN_VALUE, Integer.MAX_VALUE};
        for (int value : noValues) {
            Check.due("mayHold(0, " + value + ")", x.mayHold(0, value), false);
        }
    }

    private static void isFalseWhenItDoesNotFit() {
        HandOffRecorder x = new HandOffRecorder(0, 2);
        Check.put(x, 0, 3, true);
        Check.take(x, 0, 4);
        Check.due("broken", x.mayHold(0, 3), false);
    }
}
