/** Promise 13: outcomes. */
public final class OutcomesTest {
    public static void main(String[] args) {
        likeRowsCountOnce();
        orderAndLengthTellRowsApart();
        isZeroWhenItDoesNotFit();
        Check.end();
    }

    private static void likeRowsCountOnce() {
        HandOffRecorder x = new HandOffRecorder(0, 8);
        Check.due("empty record", x.outcomes(), 1);
        Check.step(x.beginPut(0, 5));
        Check.step(x.beginPut(1, 5));
        Check.step(x.beginPut(2, 5));
        Check.due("none to three fives", x.outcomes(), 4);
        x.renew(0, 8);
        Check.step(x.beginTake(0));
        Check.step(x.beginTake(1));
        Check.due("takes of nothing", x.outcomes(), 1);
    }

    private static void orderAndLengthTellRowsApart() {
        HandOffRecorder x = new HandOffRecorder(1, 8);
        Check.step(x.beginPut(0, 0));
        Check.due("nothing or a zero", x.outcomes(), 2);
        Check.step(x.beginPut(1, 0));
        Check.due("up to two zeros", x.outcomes(), 3);
        Check.step(x.endPut(1, true));
        Check.due("one zero or two", x.outcomes(), 2);
        x.renew(1, 8);
        Check.step(x.beginPut(0, 1));
        Check.step(x.beginPut(1, 2));
        Check.step(x.endPut(0, true));
        Check.step(x.endPut(1, true));
        Check.due("either order", x.outcomes(), 2);
        Check.step(x.beginTake(2));
        Check.due("and with one taken", x.outcomes(), 4);
    }

    private static void isZeroWhenItDoesNotFit() {
        HandOffRecorder x = new HandOffRecorder(2, 8);
        Check.put(x, 0, 1, false);
        Check.due("broken", x.outcomes(), 0);
    }
}
