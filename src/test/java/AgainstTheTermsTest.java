import java.util.List;
import java.util.Random;

/** Promises 1 to 18 on many drawn runs, each answer held against a recorder that follows the terms word for word. */
public final class AgainstTheTermsTest {
    private static final int SHORT_RUNS = 3000;
    private static final int SHORT_EVENTS = 10;
    private static final int LONG_RUNS = 60;
    private static final int LONG_EVENTS = 24;
    // With so few places a long run stays within the 512 calls for which something is promised.
    private static final int PLACES = 5;

    private final Random draw;
    private final HandOffRecorder program;
    private final PlainRecorder plain;
    private final StringBuilder told = new StringBuilder();

    private AgainstTheTermsTest(int seed) {
        draw = new Random(seed);
        int kind = drawnKind();
        int capacity = drawnCapacity();
        program = new HandOffRecorder(kind, capacity);
        plain = new PlainRecorder(kind, capacity);
        told.append("new(" + kind + ", " + capacity + ")");
    }

    public static void main(String[] args) {
        for (int seed = 0; seed < SHORT_RUNS; seed++) {
            new AgainstTheTermsTest(seed).run(SHORT_EVENTS);
        }
        for (int seed = 0; seed < LONG_RUNS; seed++) {
            new AgainstTheTermsTest(SHORT_RUNS + seed).run(LONG_EVENTS);
        }
        Check.end();
    }

    private void run(int steps) {
        compareQuestions();
        for (int step = 0; step < steps; step++) {
            drawnStep();
            compareQuestions();
        }
    }

    private int drawnKind() {
        return draw.nextInt(8) == 0 ? draw.nextInt(9) - 4 : draw.nextInt(3);
    }

    /** Mostly small, for a store that is never full shows little. */
    private int drawnCapacity() {
        return draw.nextInt(4) == 0 ? draw.nextInt(12) - 1 : 1 + draw.nextInt(3);
    }

    private int drawnWorker() {
        return draw.nextInt(20) == 0 ? draw.nextInt(5) - 1 : draw.nextInt(3);
    }

    private int drawnValue() {
        return draw.nextInt(20) == 0 ? draw.nextInt(20) - 2 : draw.nextInt(3) * 7;
    }

    private void drawnStep() {
        int worker = drawnWorker();
        int choice = draw.nextInt(40);
        if (choice == 0) {
            renew();
        } else if (choice < 3) {
            tell("giveUp(" + worker + ")");
            same(program.giveUp(worker), plain.giveUp(worker));
        } else if (choice < 6) {
            endAnyhow(worker);
        } else if (!plain.possibleAnswers(worker).isEmpty()) {
            endPossibly(worker);
        } else if (draw.nextInt(9) < 5) {
            int value = drawnValue();
            tell("beginPut(" + worker + ", " + value + ")");
            same(program.beginPut(worker, value), plain.beginPut(worker, value));
        } else {
            tell("beginTake(" + worker + ")");
            same(program.beginTake(worker), plain.beginTake(worker));
        }
    }

    private void renew() {
        int kind = drawnKind();
        int capacity = drawnCapacity();
        tell("renew(" + kind + ", " + capacity + ")");
        program.renew(kind, capacity);
        plain.renew(kind, capacity);
    }

    private void endPossibly(int worker) {
        List<Integer> answers = plain.possibleAnswers(worker);
        int answer = answers.get(draw.nextInt(answers.size()));
        if (plain.hasOpenPut(worker)) {
            endPut(worker, answer == 1);
        } else {
            endTake(worker, answer);
        }
    }

    private void endAnyhow(int worker) {
        if (draw.nextBoolean()) {
            endPut(worker, draw.nextBoolean());
        } else {
            endTake(worker, drawnValue());
        }
    }

    private void endPut(int worker, boolean stored) {
        tell("endPut(" + worker + ", " + stored + ")");
        same(program.endPut(worker, stored), plain.endPut(worker, stored));
    }

    private void endTake(int worker, int value) {
        tell("endTake(" + worker + ", " + value + ")");
        same(program.endTake(worker, value), plain.endTake(worker, value));
    }

    private void tell(String call) {
        told.append(", ").append(call);
    }

    private void same(boolean got, boolean want) {
        Check.due(told.toString(), got, want);
    }

    private void compareQuestions() {
        Check.due(told + ", events()", program.events(), plain.events());
        Check.due(told + ", begun()", program.begun(), plain.begun());
        Check.due(told + ", fits()", program.fits(), plain.fits());
        Check.due(told + ", brokenAt()", program.brokenAt(), plain.brokenAt());
        Check.due(told + ", explanations()", program.explanations(), plain.explanations());
        Check.due(told + ", outcomes()", program.outcomes(), plain.outcomes());
        Check.due(told + ", fewest()", program.fewest(), plain.fewest());
        Check.due(told + ", most()", program.most(), plain.most());
        for (int worker = 0; worker < 3; worker++) {
            Check.due(told + ", certain(" + worker + ")", program.certain(worker), plain.certain(worker));
            Check.due(told + ", answers(" + worker + ")", program.answers(worker), plain.answers(worker));
        }
        for (int i = 0; i < PLACES; i++) {
            int place = draw.nextInt(6) == 0 ? draw.nextInt(10) - 1 : draw.nextInt(4);
            int value = draw.nextInt(3) * 7;
            Check.due(told + ", mayHold(" + place + ", " + value + ")",
                program.mayHold(place, value), plain.mayHold(place, value));
        }
    }
}
