import java.util.function.Predicate;
import java.util.function.Supplier;

/**
 * Compares answers with what is due, prints those that differ, and ends the test.
 * No object is asked more than the 512 calls for which the document promises something.
 */
final class Check {
    /** The least and the greatest int, and the numbers just outside 0 .. 2. */
    static final int[] NO_WORKERS = {Integer.MIN_VALUE, -1, 3, Integer.MAX_VALUE};
    /** The least and the greatest int, and the numbers just outside 0 .. 15. */
    static final int[] NO_VALUES = {Integer.MIN_VALUE, -1, 16, Integer.MAX_VALUE};

    private static int wrong = 0;

    private Check() {
    }

    static void due(String call, long got, long want) {
        if (got != want) {
            wrong++;
            System.out.println(call + " answered " + got + ", due is " + want);
        }
    }

    static void due(String call, boolean got, boolean want) {
        due(call, got ? 1L : 0L, want ? 1L : 0L);
    }

    static void due(String call, String got, String want) {
        if (!got.equals(want)) {
            wrong++;
            System.out.println(call + ":\n  got " + got + "\n  due " + want);
        }
    }

    /** For steps that only lead up to what a test looks at. */
    static void step(boolean accepted) {
        due("a step of the test", accepted, true);
    }

    static void put(HandOffRecorder x, int worker, int value, boolean stored) {
        step(x.beginPut(worker, value));
        step(x.endPut(worker, stored));
    }

    static void take(HandOffRecorder x, int worker, int value) {
        step(x.beginTake(worker));
        step(x.endTake(worker, value));
    }

    /** Everything that the questions of the face tell: 142 calls. */
    static String state(HandOffRecorder x) {
        StringBuilder all = new StringBuilder();
        all.append(x.events()).append(' ').append(x.begun()).append(' ').append(x.fits()).append(' ');
        all.append(x.brokenAt()).append(' ').append(x.explanations()).append(' ').append(x.outcomes());
        all.append(' ').append(x.fewest()).append(' ').append(x.most());
        for (int worker = 0; worker < 3; worker++) {
            all.append(' ').append(x.certain(worker)).append(' ').append(x.answers(worker));
        }
        all.append(' ');
        for (int place = 0; place < 8; place++) {
            for (int value = 0; value < 16; value++) {
                all.append(x.mayHold(place, value) ? '1' : '0');
            }
        }
        return all.toString();
    }

    /**
     * The call is refused, and an object that heard it answers all that comes after like one that was spared it:
     * at once, when its open calls are closed, and when its workers begin again.
     */
    static void refused(String call, Supplier<HandOffRecorder> before, Predicate<HandOffRecorder> asked) {
        HandOffRecorder heard = before.get();
        HandOffRecorder spared = before.get();
        due(call, asked.test(heard), false);
        due("questions after " + call, state(heard), state(spared));
        due("closing calls after " + call, closeAll(heard), closeAll(spared));
        due("beginning calls after " + call, beginAll(heard), beginAll(spared));
    }

    /** The call is accepted and is one event, whether or not the record fits then. */
    static void accepted(String call, Supplier<HandOffRecorder> before, Predicate<HandOffRecorder> asked) {
        HandOffRecorder x = before.get();
        int events = x.events();
        due(call, asked.test(x), true);
        due("events after " + call, x.events(), events + 1);
    }

    private static String closeAll(HandOffRecorder x) {
        StringBuilder told = new StringBuilder();
        for (int worker = 0; worker < 3; worker++) {
            told.append(x.endPut(worker, true)).append(' ').append(x.giveUp(worker)).append(' ');
        }
        return told.append(state(x)).toString();
    }

    private static String beginAll(HandOffRecorder x) {
        StringBuilder told = new StringBuilder();
        for (int worker = 0; worker < 3; worker++) {
            told.append(x.beginPut(worker, worker)).append(' ').append(x.beginTake(worker)).append(' ');
        }
        return told.append(state(x)).toString();
    }

    /** What an empty record of an empty store answers, all of it. */
    static void empty(String told, HandOffRecorder x) {
        due(told + ", events()", x.events(), 0);
        due(told + ", begun()", x.begun(), 0);
        due(told + ", fits()", x.fits(), true);
        due(told + ", brokenAt()", x.brokenAt(), 0);
        due(told + ", explanations()", x.explanations(), 1);
        due(told + ", outcomes()", x.outcomes(), 1);
        due(told + ", fewest()", x.fewest(), 0);
        due(told + ", most()", x.most(), 0);
        holdsNothing(told, x);
    }

    /** What a record answers that has not fitted since that event, all but events() and begun(). */
    static void broken(String told, HandOffRecorder x, int event) {
        due(told + ", fits()", x.fits(), false);
        due(told + ", brokenAt()", x.brokenAt(), event);
        due(told + ", explanations()", x.explanations(), 0);
        due(told + ", outcomes()", x.outcomes(), 0);
        due(told + ", fewest()", x.fewest(), HandOffRecorder.NONE);
        due(told + ", most()", x.most(), HandOffRecorder.NONE);
        holdsNothing(told, x);
    }

    private static void holdsNothing(String told, HandOffRecorder x) {
        for (int place = 0; place < 8; place++) {
            for (int value = 0; value < 16; value++) {
                due(told + ", mayHold(" + place + ", " + value + ")", x.mayHold(place, value), false);
            }
        }
        for (int worker = 0; worker < 3; worker++) {
            due(told + ", certain(" + worker + ")", x.certain(worker), false);
            due(told + ", answers(" + worker + ")", x.answers(worker), 0);
        }
    }

    static void end() {
        if (wrong != 0) {
            System.out.println(wrong + " answers are not as due");
            System.exit(1);
        }
    }
}
