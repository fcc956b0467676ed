/** What an object answers hangs on its own events alone: not on other objects, and not on when it was asked. */
public final class ObjectsTest {
    public static void main(String[] args) {
        objectsAreSeparate();
        brokenRecordLeavesTheOther();
        renewingOneLeavesTheOther();
        sameCallsGiveTheSameAnswers();
        questionsChangeNothing();
        questionsOfABrokenRecordChangeNothing();
        firstBrokenEventIsToldThoughNobodyAskedThen();
        Check.end();
    }

    private static void objectsAreSeparate() {
        HandOffRecorder line = new HandOffRecorder(0, 2);
        HandOffRecorder pile = new HandOffRecorder(1, 8);
        Check.put(line, 0, 1, true);
        Check.put(pile, 0, 9, true);
        Check.put(line, 0, 2, true);
        Check.step(pile.beginTake(2));
        Check.take(line, 1, 1);
        Check.step(pile.giveUp(2));
        Check.put(pile, 1, 10, true);
        Check.take(pile, 0, 10);
        HandOffRecorder lineAlone = new HandOffRecorder(0, 2);
        Check.put(lineAlone, 0, 1, true);
        Check.put(lineAlone, 0, 2, true);
        Check.take(lineAlone, 1, 1);
        HandOffRecorder pileAlone = new HandOffRecorder(1, 8);
        Check.put(pileAlone, 0, 9, true);
        Check.step(pileAlone.beginTake(2));
        Check.step(pileAlone.giveUp(2));
        Check.put(pileAlone, 1, 10, true);
        Check.take(pileAlone, 0, 10);
        Check.due("a line beside a pile", Check.state(line), Check.state(lineAlone));
        Check.due("a pile beside a line", Check.state(pile), Check.state(pileAlone));
        Check.due("the line's fits()", line.fits(), true);
        Check.due("the pile's fits()", pile.fits(), true);
    }

    private static void brokenRecordLeavesTheOther() {
        HandOffRecorder sound = new HandOffRecorder(0, 1);
        HandOffRecorder broken = new HandOffRecorder(0, 1);
        Check.take(broken, 0, 3);
        Check.put(sound, 0, 3, true);
        Check.due("the sound one's fits()", sound.fits(), true);
        Check.due("the sound one's brokenAt()", sound.brokenAt(), 0);
        Check.broken("beside a sound one", broken, 2);
    }

    private static void renewingOneLeavesTheOther() {
        HandOffRecorder kept = new HandOffRecorder(2, 1);
        HandOffRecorder thrown = new HandOffRecorder(2, 1);
        Check.step(kept.beginPut(0, 5));
        Check.step(thrown.beginPut(0, 6));
        thrown.renew(0, 3);
        Check.due("events()", kept.events(), 1);
        Check.due("mayHold(0, 5)", kept.mayHold(0, 5), true);
        Check.due("a put of worker 1", kept.beginPut(1, 5), false);
        Check.empty("the one thrown away", thrown);
    }

    private static void sameCallsGiveTheSameAnswers() {
        for (int kind = 0; kind < 3; kind++) {
            HandOffRecorder first = new HandOffRecorder(kind, 2);
            HandOffRecorder second = new HandOffRecorder(kind, 2);
            overlap(first, false);
            overlap(second, false);
            Check.due("kind " + kind, Check.state(second), Check.state(first));
        }
    }

    private static void questionsChangeNothing() {
        for (int kind = 0; kind < 3; kind++) {
            HandOffRecorder asked = new HandOffRecorder(kind, 2);
            HandOffRecorder unasked = new HandOffRecorder(kind, 2);
            overlap(asked, true);
            overlap(unasked, false);
            Check.due("kind " + kind + ", asked before", Check.state(asked), Check.state(unasked));
        }
    }

    /** Three workers at once; where it asks, it asks all questions twice. */
    private static void overlap(HandOffRecorder x, boolean asks) {
        Check.step(x.beginPut(0, 4));
        Check.step(x.beginTake(1));
        Check.step(x.beginTake(2));
        if (asks) {
            Check.due("asked again", Check.state(x), Check.state(x));
        }
        Check.step(x.endTake(2, 4));
        Check.step(x.endPut(0, true));
        Check.step(x.beginPut(0, 11));
        Check.step(x.beginTake(2));
    }

    private static void questionsOfABrokenRecordChangeNothing() {
        HandOffRecorder asked = new HandOffRecorder(0, 1);
        HandOffRecorder unasked = new HandOffRecorder(0, 1);
        Check.take(asked, 0, 3);
        Check.take(unasked, 0, 3);
        Check.due("asked again", Check.state(asked), Check.state(asked));
        Check.put(asked, 1, 3, true);
        Check.put(unasked, 1, 3, true);
        Check.due("asked before", Check.state(asked), Check.state(unasked));
        Check.broken("the one not asked before", unasked, 2);
    }

    private static void firstBrokenEventIsToldThoughNobodyAskedThen() {
        HandOffRecorder x = new HandOffRecorder(1, 1);
        Check.put(x, 0, 1, true);
        Check.put(x, 0, 2, true);
        Check.take(x, 1, 1);
        Check.take(x, 2, -1);
        Check.due("brokenAt()", x.brokenAt(), 4);
        Check.due("events()", x.events(), 8);
    }
}
