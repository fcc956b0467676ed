import java.util.function.Supplier;

/** Finds out by calls of the face which kind of store an empty record is for, and of what capacity. */
final class Probe {
    static final String LINE = "taken by 0 front, 1 front, 2 front; put by 0 true, 1 true, 2 true";
    static final String PILE = "taken by 0 back, 1 back, 2 back; put by 0 true, 1 true, 2 true";
    static final String SHARED_ROW = "taken by 0 back, 1 front, 2 front; put by 0 true, 1 false, 2 false";

    private Probe() {
    }

    /** Needs a capacity of two at least: in a store of one the front is the back. */
    static String kind(Supplier<HandOffRecorder> empty) {
        StringBuilder told = new StringBuilder();
        for (int worker = 0; worker < 3; worker++) {
            told.append(worker == 0 ? "taken by " : ", ").append(worker);
            told.append(' ').append(endTaken(empty.get(), worker));
        }
        for (int worker = 0; worker < 3; worker++) {
            told.append(worker == 0 ? "; put by " : ", ").append(worker);
            told.append(' ').append(empty.get().beginPut(worker, 0));
        }
        return told.toString();
    }

    private static String endTaken(HandOffRecorder x, int worker) {
        Check.put(x, 0, 1, true);
        Check.put(x, 0, 2, true);
        Check.step(x.beginTake(worker));
        boolean frontStays = x.mayHold(0, 1) && x.fewest() == 1 && !x.mayHold(0, 2);
        boolean backStays = x.mayHold(0, 2);
        return frontStays ? "back" : backStays ? "front" : "nothing";
    }

    /** How many of eight puts are stored one after the other: the capacity. */
    static int room(HandOffRecorder x) {
        for (int put = 0; put < 8; put++) {
            Check.put(x, 0, put, true);
            if (!x.fits()) {
                return put;
            }
        }
        return 8;
    }
}
