import java.util.Arrays;

/**
 * Records the calls that three workers make, overlapping in time, on one shared store of limited room,
 * and tells after every record whether the store can have carried them out one at a time.
 */
public final class HandOffRecorder {
    public static final int NONE = -1;

    private static final int WORKERS = 3;
    private static final int VALUES = 16;
    private static final int MOST_CALLS = 8;
    private static final int LARGEST_CAPACITY = 8;

    // Both kinds of call share one number for their answer, so that the search need not tell them apart.
    private static final int NOT_STORED = 0;
    private static final int STORED = 1;
    private static final int WAS_EMPTY = -1;

    private final Store store = new Store();
    private final Call[] calls = new Call[MOST_CALLS];
    private final int[] openCalls = new int[WORKERS];
    private final int[] repliesOnPath = new int[MOST_CALLS];
    private final Findings findings = new Findings();
    private int begunCalls;
    // Sets of calls are bits, so that the search can hand them on without copying rows.
    private int endedCalls;
    private int givenUpCalls;
    private int eventCount;
    private int firstBroken;

    public HandOffRecorder(int kind, int capacity) {
        for (int call = 0; call < MOST_CALLS; call++) {
            calls[call] = new Call();
        }
        startRecord(kind, capacity);
    }

    public void renew(int kind, int capacity) {
        startRecord(kind, capacity);
    }

    public boolean beginPut(int worker, int value) {
        if (!mayBegin(worker) || !isValue(value) || !store.letsPut(worker)) {
            return false;
        }
        calls[begunCalls].startPut(worker, value, endedCalls);
        openNextCall(worker);
        review();
        return true;
    }

    public boolean beginTake(int worker) {
        if (!mayBegin(worker)) {
            return false;
        }
        calls[begunCalls].startTake(worker, endedCalls);
        openNextCall(worker);
        review();
        return true;
    }

    public boolean endPut(int worker, boolean stored) {
        if (!hasOpenCall(worker) || !calls[openCalls[worker]].isPut) {
            return false;
        }
        endOpenCall(worker, stored ? STORED : NOT_STORED);
        review();
        return true;
    }

    public boolean endTake(int worker, int value) {
        if (!hasOpenCall(worker) || calls[openCalls[worker]].isPut) {
            return false;
        }
        if (value != WAS_EMPTY && !isValue(value)) {
            return false;
        }
        endOpenCall(worker, value);
        review();
        return true;
    }

    public boolean giveUp(int worker) {
        if (!hasOpenCall(worker)) {
            return false;
        }
        givenUpCalls |= 1 << openCalls[worker];
        closeOpenCall(worker);
        review();
        return true;
    }

    public int events() {
        return eventCount;
    }

    public int begun() {
        return begunCalls;
    }

    public boolean fits() {
        return findings.total > 0;
    }

    public int brokenAt() {
        return firstBroken;
    }

    public long explanations() {
        return findings.total;
    }

    public int outcomes() {
        return findings.rows.count;
    }

    public int fewest() {
        return findings.rows.shortest();
    }

    public int most() {
        return findings.rows.longest();
    }

    public boolean mayHold(int place, int value) {
        return findings.rows.anyHas(place, value);
    }

    public boolean certain(int worker) {
        return fits() && hasOpenCall(worker) && findings.listed[worker] == findings.total;
    }

    public int answers(int worker) {
        return hasOpenCall(worker) ? Integer.bitCount(findings.replies[worker]) : 0;
    }

    private static boolean isWorker(int worker) {
        return worker >= 0 && worker < WORKERS;
    }

    private static boolean isValue(int value) {
        return value >= 0 && value < VALUES;
    }

    private static boolean isIn(int callSet, int call) {
        return (callSet >> call & 1) != 0;
    }

    private boolean hasOpenCall(int worker) {
        return isWorker(worker) && openCalls[worker] != NONE;
    }

    private boolean mayBegin(int worker) {
        return isWorker(worker) && openCalls[worker] == NONE && begunCalls < MOST_CALLS;
    }

    private void startRecord(int kind, int capacity) {
        store.setUp(kind, capacity);
        Arrays.fill(openCalls, NONE);
        begunCalls = 0;
        endedCalls = 0;
        givenUpCalls = 0;
        eventCount = 0;
        firstBroken = 0;
        review();
    }

    private void openNextCall(int worker) {
        openCalls[worker] = begunCalls;
        begunCalls++;
        eventCount++;
    }

    private void endOpenCall(int worker, int answer) {
        int call = openCalls[worker];
        calls[call].answer = answer;
        endedCalls |= 1 << call;
        closeOpenCall(worker);
    }

    private void closeOpenCall(int worker) {
        openCalls[worker] = NONE;
        eventCount++;
    }

    private void review() {
        findings.clear();
        lengthenList(0, Row.EMPTY, 0);
        if (firstBroken == 0 && !fits()) {
            firstBroken = eventCount;
        }
    }

    /** Notes every explanation that begins with the calls in listed, which have left row in the store. */
    private void lengthenList(int listed, long row, int depth) {
        if ((endedCalls & ~listed) == 0) {
            noteExplanation(listed, row);
        }
        if (depth >= MOST_CALLS) {
            return;
        }
        for (int call = 0; call < begunCalls; call++) {
            if (mayStandNext(call, listed)) {
                carryOut(call, listed, row, depth);
            }
        }
    }

    private boolean mayStandNext(int call, int listed) {
        return !isIn(listed | givenUpCalls, call) && (calls[call].endedBefore & ~listed) == 0;
    }

    private void carryOut(int call, int listed, long row, int depth) {
        int reply = store.replyTo(calls[call], row);
        if (isIn(endedCalls, call) && reply != calls[call].answer) {
            return;
        }
        repliesOnPath[call] = reply;
        lengthenList(listed | 1 << call, store.rowAfter(calls[call], row), depth + 1);
    }

    private void noteExplanation(int listed, long row) {
        findings.addExplanation(row);
        for (int worker = 0; worker < WORKERS; worker++) {
            int call = openCalls[worker];
            if (call != NONE && isIn(listed, call)) {
                findings.addReply(worker, repliesOnPath[call]);
            }
        }
    }

    /** One begun call. */
    private static final class Call {
        private int worker;
        private boolean isPut;
        private int value;
        // The calls that had ended when this one began: they stand before it in every explanation.
        private int endedBefore;
        private int answer;

        void startPut(int byWorker, int putValue, int endedCalls) {
            worker = byWorker;
            isPut = true;
            value = putValue;
            endedBefore = endedCalls;
        }

        void startTake(int byWorker, int endedCalls) {
            worker = byWorker;
            isPut = false;
            endedBefore = endedCalls;
        }
    }

    /**
     * What the store holds, written into one long so that the search makes no objects:
     * four bits for each value, the front lowest, and the number of values above all of them.
     */
    private static final class Row {
        private static final long EMPTY = 0L;
        private static final int VALUE_BITS = 4;
        private static final int VALUE_MASK = 15;
        private static final int LENGTH_SHIFT = 32;
        private static final long ALL_VALUES = 0xFFFFFFFFL;
        private static final long ONE_LONGER = 1L << LENGTH_SHIFT;

        static int length(long row) {
            return (int) (row >>> LENGTH_SHIFT);
        }

        static int valueAt(long row, int place) {
            return (int) (row >>> VALUE_BITS * place) & VALUE_MASK;
        }

        static long withBack(long row, int value) {
            return (row | (long) value << VALUE_BITS * length(row)) + ONE_LONGER;
        }

        static long withoutBack(long row) {
            int back = length(row) - 1;
            return (row & ~((long) VALUE_MASK << VALUE_BITS * back)) - ONE_LONGER;
        }

        static long withoutFront(long row) {
            long rest = (row & ALL_VALUES) >>> VALUE_BITS;
            return rest | (long) (length(row) - 1) << LENGTH_SHIFT;
        }
    }

    /** The rules of the store; what it holds is handed in, so that the search can go back to any row. */
    private static final class Store {
        private static final int LINE = 0;
        private static final int PILE = 1;
        private static final int SHARED_ROW = 2;
        private static final int OWNER = 0;

        private int kind;
        private int capacity;

        void setUp(int newKind, int newCapacity) {
            kind = newKind == PILE || newKind == SHARED_ROW ? newKind : LINE;
            capacity = Math.max(1, Math.min(newCapacity, LARGEST_CAPACITY));
        }

        boolean letsPut(int worker) {
            return kind != SHARED_ROW || worker == OWNER;
        }

        int replyTo(Call call, long row) {
            if (call.isPut) {
                return hasRoom(row) ? STORED : NOT_STORED;
            }
            if (row == Row.EMPTY) {
                return WAS_EMPTY;
            }
            return Row.valueAt(row, takesBack(call.worker) ? Row.length(row) - 1 : 0);
        }

        long rowAfter(Call call, long row) {
            if (call.isPut) {
                return hasRoom(row) ? Row.withBack(row, call.value) : row;
            }
            if (row == Row.EMPTY) {
                return row;
            }
            return takesBack(call.worker) ? Row.withoutBack(row) : Row.withoutFront(row);
        }

        private boolean hasRoom(long row) {
            return Row.length(row) < capacity;
        }

        private boolean takesBack(int worker) {
            return kind == PILE || kind == SHARED_ROW && worker == OWNER;
        }
    }

    /** What the explanations of the record have shown. */
    private static final class Findings {
        private final RowSet rows = new RowSet();
        // For each worker: how many explanations list its open call, and the answers it gets there as bits.
        private final int[] listed = new int[WORKERS];
        private final int[] replies = new int[WORKERS];
        private int total;

        void clear() {
            rows.clear();
            Arrays.fill(listed, 0);
            Arrays.fill(replies, 0);
            total = 0;
        }

        void addExplanation(long row) {
            total++;
            rows.add(row);
        }

        void addReply(int worker, int reply) {
            listed[worker]++;
            replies[worker] |= 1 << reply - WAS_EMPTY;
        }
    }

    /** The different rows that explanations end with. */
    private static final class RowSet {
        // Three workers with eight calls leave at most 680 explanations, whatever the order of their events.
        private static final int ROOM = 680;
        private static final int SLOTS = 1024;
        private static final int FREE = 0;
        // The product of a row and this number is well mixed in its ten highest bits, which name one of the slots.
        private static final long SCATTER = 0x9E3779B97F4A7C15L;
        private static final int SCATTER_SHIFT = 54;

        private final long[] rows = new long[ROOM];
        // A slot is free or holds the place in rows plus one: looking through all rows each time would be slow.
        private final int[] slots = new int[SLOTS];
        private int count;

        void clear() {
            Arrays.fill(slots, FREE);
            count = 0;
        }

        void add(long row) {
            int slot = (int) (row * SCATTER >>> SCATTER_SHIFT);
            for (int tried = 0; tried < SLOTS; tried++) {
                int taken = slots[slot];
                if (taken != FREE && rows[taken - 1] == row) {
                    return;
                }
                if (taken == FREE && count < ROOM) {
                    rows[count] = row;
                    count++;
                    slots[slot] = count;
                    return;
                }
                slot = (slot + 1) % SLOTS;
            }
        }

        int shortest() {
            int best = NONE;
            for (int i = 0; i < count; i++) {
                int length = Row.length(rows[i]);
                best = best == NONE ? length : Math.min(best, length);
            }
            return best;
        }

        int longest() {
            int best = NONE;
            for (int i = 0; i < count; i++) {
                best = Math.max(best, Row.length(rows[i]));
            }
            return best;
        }

        boolean anyHas(int place, int value) {
            for (int i = 0; i < count; i++) {
                if (place >= 0 && place < Row.length(rows[i]) && Row.valueAt(rows[i], place) == value) {
                    return true;
                }
            }
            return false;
        }
    }
}
