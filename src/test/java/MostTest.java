/** Promise 15: most. */
public final class MostTest {
    public static void main(String[] args) {
        HandOffRecorder x = new HandOffRecorder(0, 3);
        Check.due("empty record", x.most(), 0);
        Check.step(x.beginPut(0, 3));
        Check.step(x.beginPut(1, 4));
        Check.due("two open puts", x.most(), 2);
        Check.step(x.giveUp(1));
        Check.due("one given up", x.most(), 1);
        Check.step(x.beginTake(1));
        Check.step(x.endPut(0, true));
        Check.due("open take left out", x.most(), 1);
        Check.step(x.endTake(1, 3));
        Check.due("taken", x.most(), 0);
        Check.put(x, 0, 5, true);
        Check.put(x, 0, 6, true);
        Check.step(x.beginPut(0, 7));
        Check.step(x.beginPut(1, 8));
        Check.due("no more than the capacity", x.most(), 3);
        Check.step(x.endPut(0, false));
        Check.due("still the capacity", x.most(), 3);
        Check.step(x.giveUp(1));
        Check.due("broken", x.most(), HandOffRecorder.NONE);
        Check.end();
    }
}
