/** Compares answers with what is due, prints those that differ, and ends the test. */
final class Check {
    private static int wrong = 0;

    private Check() {
    }

    static void due(String call, long got, long want) {
        if (got != want) {
            wrong++;
            System.out.println(call + " answered " + got + ", due is " + want);
        }
    }

    static void due(String call, boolean got, boolean want) {
        due(call, got ? 1L : 0L, want ? 1L : 0L);
    }

    /** For steps that only lead up to what a test looks at. */
    static void step(boolean accepted) {
        due("a step of the test", accepted, true);
    }

    static void put(HandOffRecorder x, int worker, int value, boolean stored) {
        step(x.beginPut(worker, value));
        step(x.endPut(worker, stored));
    }

    static void take(HandOffRecorder x, int worker, int value) {
        step(x.beginTake(worker));
        step(x.endTake(worker, value));
    }

    /** Everything that the questions of the face tell, to see that a refused call changed nothing. */
    static String state(HandOffRecorder x) {
        StringBuilder all = new StringBuilder();
        all.append(x.events()).append(' ').append(x.begun()).append(' ').append(x.fits()).append(' ');
        all.append(x.brokenAt()).append(' ').append(x.explanations()).append(' ').append(x.outcomes());
        all.append(' ').append(x.fewest()).append(' ').append(x.most());
        for (int worker = 0; worker < 3; worker++) {
            all.append(' ').append(x.certain(worker)).append(' ').append(x.answers(worker));
        }
        for (int place = 0; place < 8; place++) {
            for (int value = 0; value < 16; value++) {
                all.append(x.mayHold(place, value) ? '1' : '0');
            }
        }
        return all.toString();
    }

    static void refused(String call, boolean got, HandOffRecorder x, String before) {
        due(call, got, false);
        due("state unchanged by " + call, state(x).equals(before), true);
    }

    static void end() {
        if (wrong != 0) {
            System.out.println(wrong + " answers are not as due");
            System.exit(1);
        }
    }
}
