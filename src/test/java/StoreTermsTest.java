/** The terms of the store, at its ends: empty, one value, one short of full, full; for each kind and capacity. */
public final class StoreTermsTest {
    public static void main(String[] args) {
        storeIsEmptyAtFirst();
        for (int kind = 0; kind <= 2; kind++) {
            for (int capacity = 1; capacity <= 8; capacity++) {
                putIsStoredUpToTheLastPlace(kind, capacity);
                putOnAFullStoreAnswersFalse(kind, capacity);
                putOnAFullStoreChangesNothing(kind, capacity);
                takeMakesRoomInAFullStore(kind, capacity);
            }
            takeOfAnEmptyStoreAnswersMinusOne(kind);
            takeOfAnEmptyStoreChangesNothing(kind);
            lastValueLeavesTheStoreEmpty(kind);
        }
        storeIsFilledAndEmptiedAgainAndAgain();
        putComesToStandAtTheBack();
        lineGivesTheFront();
        pileGivesTheBack();
        sharedRowGivesTheBackToItsOwnerAndTheFrontToTheOthers();
        Check.end();
    }

    private static void storeIsEmptyAtFirst() {
        for (int kind = 0; kind <= 2; kind++) {
            for (int worker = 0; worker < 3; worker++) {
                HandOffRecorder x = new HandOffRecorder(kind, 1);
                Check.take(x, worker, -1);
                Check.due("first take", x.fits(), true);
            }
        }
    }

    private static void putIsStoredUpToTheLastPlace(int kind, int capacity) {
        HandOffRecorder x = filled(kind, capacity, capacity - 1);
        Check.put(x, 0, 15, true);
        Check.due("the last place", x.fits(), true);
        Check.due("it stands there", x.mayHold(capacity - 1, 15), true);
        x = filled(kind, capacity, capacity - 1);
        Check.put(x, 0, 15, false);
        Check.due("one short of full, answered false", x.fits(), false);
    }

    /** The store of eight is full after the last of eight calls, so there no call is left to see it. */
    private static void putOnAFullStoreAnswersFalse(int kind, int capacity) {
        if (capacity == 8) {
            return;
        }
        HandOffRecorder x = filled(kind, capacity, capacity);
        Check.put(x, 0, 15, false);
        Check.due("full, answered false", x.fits(), true);
        x = filled(kind, capacity, capacity);
        Check.put(x, 0, 15, true);
        Check.due("full, answered true", x.fits(), false);
    }

    private static void putOnAFullStoreChangesNothing(int kind, int capacity) {
        if (capacity == 8) {
            return;
        }
        HandOffRecorder x = filled(kind, capacity, capacity);
        Check.put(x, 0, 15, false);
        Check.due("fewest()", x.fewest(), capacity);
        Check.due("most()", x.most(), capacity);
        for (int place = 0; place < 8; place++) {
            Check.due("the value put", x.mayHold(place, 15), false);
            Check.due("the value before", x.mayHold(place, place), place < capacity);
        }
    }

    private static void takeMakesRoomInAFullStore(int kind, int capacity) {
        if (capacity > 6) {
            return;
        }
        HandOffRecorder x = filled(kind, capacity, capacity);
        Check.take(x, 1, kind == 1 ? capacity - 1 : 0);
        Check.due("one short of full", x.most(), capacity - 1);
        Check.put(x, 0, 15, true);
        Check.due("full again", x.fits(), true);
        Check.due("at the back", x.mayHold(capacity - 1, 15), true);
        Check.due("fewest()", x.fewest(), capacity);
    }

    private static void takeOfAnEmptyStoreAnswersMinusOne(int kind) {
        for (int worker = 0; worker < 3; worker++) {
            for (int value = -1; value <= 15; value++) {
                HandOffRecorder x = new HandOffRecorder(kind, 8);
                Check.take(x, worker, value);
                Check.due("taken of an empty store: " + value, x.fits(), value == -1);
            }
        }
    }

    private static void takeOfAnEmptyStoreChangesNothing(int kind) {
        for (int worker = 0; worker < 3; worker++) {
            HandOffRecorder x = new HandOffRecorder(kind, 1);
            Check.take(x, worker, -1);
            Check.due("outcomes()", x.outcomes(), 1);
            Check.due("fewest()", x.fewest(), 0);
            Check.due("most()", x.most(), 0);
            Check.put(x, 0, 0, true);
            Check.due("then there is room for one", x.fits() && x.mayHold(0, 0), true);
            Check.put(x, 0, 1, false);
            Check.due("and for no more", x.fits(), true);
        }
    }

    private static void lastValueLeavesTheStoreEmpty(int kind) {
        int[] values = {0, 15};
        for (int worker = 0; worker < 3; worker++) {
            for (int value : values) {
                HandOffRecorder x = new HandOffRecorder(kind, 8);
                Check.put(x, 0, value, true);
                Check.take(x, worker, value);
                Check.due("the one value is front and back", x.fits(), true);
                Check.due("most()", x.most(), 0);
                Check.take(x, worker, -1);
                Check.due("empty then", x.fits(), true);
            }
        }
    }

    private static void storeIsFilledAndEmptiedAgainAndAgain() {
        for (int kind = 0; kind <= 2; kind++) {
            HandOffRecorder x = new HandOffRecorder(kind, 1);
            for (int round = 0; round < 4; round++) {
                Check.put(x, 0, 15 - round, true);
                Check.due("full", x.fewest(), 1);
                Check.take(x, 2, 15 - round);
                Check.due("empty", x.most(), 0);
            }
            Check.due("fits()", x.fits(), true);
        }
    }

    private static void putComesToStandAtTheBack() {
        for (int kind = 0; kind <= 2; kind++) {
            HandOffRecorder x = new HandOffRecorder(kind, 8);
            for (int place = 0; place < 8; place++) {
                Check.put(x, 0, 15 - place, true);
                Check.due("at the back", x.mayHold(place, 15 - place), true);
                Check.due("at the front still", x.mayHold(0, 15), true);
            }
        }
    }

    private static void lineGivesTheFront() {
        int[] due = {11, 12, 13, 14};
        for (int worker = 0; worker < 3; worker++) {
            takesInTurn(0, worker, due);
        }
    }

    private static void pileGivesTheBack() {
        int[] due = {14, 13, 12, 11};
        for (int worker = 0; worker < 3; worker++) {
            takesInTurn(1, worker, due);
        }
    }

    private static void sharedRowGivesTheBackToItsOwnerAndTheFrontToTheOthers() {
        takesInTurn(2, 0, new int[] {14, 13, 12, 11});
        takesInTurn(2, 1, new int[] {11, 12, 13, 14});
        takesInTurn(2, 2, new int[] {11, 12, 13, 14});
        HandOffRecorder x = fourStored(2);
        Check.take(x, 1, 11);
        Check.take(x, 0, 14);
        Check.take(x, 2, 12);
        Check.take(x, 0, 13);
        Check.due("from both ends", x.fits(), true);
    }

    /** Every take is tried with each of the four values: the due one alone fits. */
    private static void takesInTurn(int kind, int worker, int[] due) {
        for (int turn = 0; turn < 4; turn++) {
            for (int value = 11; value <= 14; value++) {
                HandOffRecorder x = fourStored(kind);
                for (int before = 0; before < turn; before++) {
                    Check.take(x, worker, due[before]);
                }
                Check.take(x, worker, value);
                Check.due("kind " + kind + ", worker " + worker + ", take " + turn + " gets " + value,
                    x.fits(), value == due[turn]);
            }
        }
    }

    private static HandOffRecorder fourStored(int kind) {
        HandOffRecorder x = new HandOffRecorder(kind, 4);
        for (int value = 11; value <= 14; value++) {
            Check.put(x, 0, value, true);
        }
        return x;
    }

    /** Holds 0, 1, 2 and so on from the front. */
    private static HandOffRecorder filled(int kind, int capacity, int count) {
        HandOffRecorder x = new HandOffRecorder(kind, capacity);
        for (int value = 0; value < count; value++) {
            Check.put(x, 0, value, true);
        }
        Check.due("fits()", x.fits(), true);
        return x;
    }
}
